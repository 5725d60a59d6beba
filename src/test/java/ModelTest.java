import java.util.ArrayList;
import java.util.List;
import java.util.Random;

/** Runs of random calls, put to the class and to the Model: every promise, in states that nobody thought of. */
public final class ModelTest {
    private static final int RUNS = 400;
    private static final int CALLS = 512;
    private static final int[] WRONG = {-1, -2, 17, 41, 61, 99, Integer.MIN_VALUE, Integer.MAX_VALUE};

    private static int wrong;
    private static int checks;

    private final Random random;
    private final LoafParts x = new LoafParts();
    private final Model model = new Model();
    private final List<String> calls = new ArrayList<>();

    private ModelTest(long seed) {
        random = new Random(seed);
    }

    public static void main(String[] args) {
        for (int run = 0; run < RUNS && wrong == 0; run++) {
            new ModelTest(run).run();
        }
        System.out.println("ModelTest: " + checks + " checks, " + wrong + " wrong");
        if (wrong != 0) {
            System.exit(1);
        }
    }

    private void run() {
        if (random.nextInt(20) != 0) {
            writeTable();
        }
        while (calls.size() < CALLS - 70 && wrong == 0) {
            int choice = random.nextInt(100);
            if (choice == 0) {
                writeTable();
            } else if (choice < 55) {
                deed();
            } else if (choice < 60) {
                pairs();
            } else {
                other();
            }
            if (random.nextInt(3) == 0) {
                call("asked");
            }
            if (random.nextInt(6) == 0) {
                call("upper");
                call("lower");
            }
            if (random.nextInt(4) == 0) {
                call("digest");
            }
        }
        call("finding");
        for (int f = 0; f <= 6; f++) {
            call("findings", f);
        }
        call("digest");
    }

    private void writeTable() {
        StringBuilder text = new StringBuilder(random.nextInt(3) == 0 ? " " : "");
        text.append(random.nextInt(10)).append(random.nextInt(10));
        int workers = 2 + random.nextInt(6);
        for (int i = 0; i < workers; i++) {
            text.append(random.nextInt(3) == 0 ? " " : "");
            text.append("weoscmwwec".charAt(random.nextInt(10)));
            text.append(1 + random.nextInt(9)).append(1 + random.nextInt(9));
        }
        if (random.nextInt(6) == 0) {
            text.setCharAt(random.nextInt(text.length()), "0 wz5".charAt(random.nextInt(5)));
        }
        int t = random.nextInt(4);
        call("text", t, text.length());
        for (int i = 0; i < text.length(); i++) {
            if (text.charAt(i) != ' ') {
                call("put", t, i, text.charAt(i));
            }
        }
        call("fault", t);
        call("table", t);
    }

    private void deed() {
        int d = part();
        switch (random.nextInt(16)) {
            case 0: case 1: case 2: call("cut", d); break;
            case 3: call("bake", wrongOr(1 + random.nextInt(9))); break;
            case 4: call("back", who(), d); break;
            case 5: call("lots", wrongOr(1 + random.nextInt(random.nextInt(4) == 0 ? 20 : 5)), wrongOr(random.nextInt()));
                break;
            case 6: call("undo", wrongOr(random.nextInt(41))); break;
            case 7: call("keep", wrongOr(random.nextInt(3))); break;
            case 8: call("on", wrongOr(random.nextInt(3))); break;
            default: call("give", who(), d); break;
        }
    }

    private void pairs() {
        int r = random.nextInt(6);
        int size = random.nextInt(9);
        boolean parts = random.nextBoolean();
        call("row", r, size);
        for (int i = 0; i < size; i++) {
            call("lay", r, i, parts || i % 2 == 0 ? part() : random.nextInt(30) == 0 ? 2 : random.nextInt(2));
        }
        call("dues", r);
        call("kinds", r);
        call("test", r);
        call("mean", r);
    }

    private void other() {
        int r = wrongOr(random.nextInt(6));
        int i = wrongOr(random.nextInt(10));
        switch (random.nextInt(27)) {
            case 0: call("row", r, wrongOr(random.nextInt(41))); break;
            case 1: call("lay", r, i, random.nextInt()); break;
            case 2: call("at", r, i); break;
            case 3: call("tear", r); break;
            case 4: call("copy", r, i, wrongOr(random.nextInt(6)), random.nextInt(10), wrongOr(random.nextInt(10))); break;
            case 5: call("text", wrongOr(random.nextInt(4)), wrongOr(random.nextInt(61))); break;
            case 6: call("put", wrongOr(random.nextInt(4)), i, random.nextInt()); break;
            case 7: call("fault", wrongOr(random.nextInt(4))); break;
            case 8: call("table", wrongOr(random.nextInt(400) == 0 ? random.nextInt(4) : -3)); break;
            case 9: call("worker", who(), wrongOr(random.nextInt(6))); break;
            case 10: call("mark", who(), wrongOr(random.nextInt(6))); break;
            case 11: call("takes", who(), part()); break;
            case 12: call("lacks", who()); break;
            case 13: call("ways", who()); break;
            case 14: call("writes", who(), r); break;
            case 15: call("greedy", who()); break;
            case 16: call("serve", who()); break;
            case 17: call("need"); break;
            case 18: call("poor"); break;
            case 19: call("ready"); break;
            case 20: call("best"); break;
            case 21: call("duel", who(), who(), wrongOr(random.nextInt(random.nextInt(4) == 0 ? 5 : 4))); break;
            case 22: call("odds", who(), wrongOr(random.nextInt(13))); break;
            case 23: call("mid", who(), wrongOr(random.nextInt(13))); break;
            case 24: call("mean", r); break;
            case 25: call("kinds", r); break;
            default: call("count", wrongOr(random.nextInt(12))); break;
        }
    }

    private int who() {
        return wrongOr(random.nextInt(random.nextInt(4) == 0 ? 7 : 2));
    }

    private int part() {
        return wrongOr(2 + random.nextInt(random.nextInt(3) == 0 ? 15 : 7));
    }

    private int wrongOr(int right) {
        return random.nextInt(40) == 0 ? WRONG[random.nextInt(WRONG.length)] : right;
    }

    private void call(String name, int... p) {
        StringBuilder text = new StringBuilder(name).append('(');
        for (int k = 0; k < p.length; k++) {
            text.append(k > 0 ? ", " : "").append(p[k]);
        }
        calls.add(text.append(')').toString());
        long got = Calls.answer(x, name, p);
        long want = model.answer(name, p);
        checks++;
        if (got != want) {
            wrong++;
            System.out.println(String.join("; ", calls));
            System.out.println(text + " answered " + got + ", the Model " + want);
        }
    }
}
