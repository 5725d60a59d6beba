/** A call of the class by its name. */
final class Calls {
    private Calls() {
    }

    static long answer(LoafParts x, String name, int[] p) {
        switch (name) {
            case "row": return x.row(p[0], p[1]);
            case "lay": return x.lay(p[0], p[1], p[2]);
            case "at": return x.at(p[0], p[1]);
            case "tear": return x.tear(p[0]);
            case "copy": return x.copy(p[0], p[1], p[2], p[3], p[4]);
            case "mean": return x.mean(p[0]);
            case "text": return x.text(p[0], p[1]);
            case "put": return x.put(p[0], p[1], p[2]);
            case "fault": return x.fault(p[0]);
            case "table": return x.table(p[0]);
            case "worker": return x.worker(p[0], p[1]);
            case "mark": return x.mark(p[0], p[1]);
            case "takes": return x.takes(p[0], p[1]);
            case "cut": return x.cut(p[0]);
            case "give": return x.give(p[0], p[1]);
            case "back": return x.back(p[0], p[1]);
            case "bake": return x.bake(p[0]);
            case "undo": return x.undo(p[0]);
            case "keep": return x.keep(p[0]);
            case "on": return x.on(p[0]);
            case "lacks": return x.lacks(p[0]);
            case "ways": return x.ways(p[0]);
            case "writes": return x.writes(p[0], p[1]);
            case "greedy": return x.greedy(p[0]);
            case "serve": return x.serve(p[0]);
            default: return moreAnswers(x, name, p);
        }
    }

    private static long moreAnswers(LoafParts x, String name, int[] p) {
        switch (name) {
            case "need": return x.need();
            case "poor": return x.poor();
            case "ready": return x.ready();
            case "best": return x.best();
            case "dues": return x.dues(p[0]);
            case "kinds": return x.kinds(p[0]);
            case "test": return x.test(p[0]);
            case "duel": return x.duel(p[0], p[1], p[2]);
            case "odds": return x.odds(p[0], p[1]);
            case "mid": return x.mid(p[0], p[1]);
            case "lots": return x.lots(p[0], p[1]);
            case "asked": return x.asked();
            case "upper": return x.upper();
            case "lower": return x.lower();
            case "count": return x.count(p[0]);
            case "finding": return x.finding();
            case "findings": return x.findings(p[0]);
            case "digest": return x.digest();
            default: throw new IllegalStateException(name);
        }
    }
}
