import java.io.File;
import java.io.IOException;
import java.nio.charset.StandardCharsets;
import java.nio.file.Files;
import java.nio.file.Path;
import java.util.ArrayList;
import java.util.Comparator;
import java.util.List;
import java.util.Set;
import java.util.TreeSet;
import java.util.regex.Matcher;
import java.util.regex.Pattern;
import java.util.stream.Stream;

/** What README.md shows: its programs and commands are run as they stand, its calls with the answers that it tells. */
public final class ReadmeTest {
    private static final Path README = Path.of("README.md");
    private static final Path SHARED_TESTS = Path.of("../shared/tests");
    /** A command that would run this test again, without end. */
    private static final String WHOLE_CI = "bash .ci/run";
    private static final Pattern BLOCK = Pattern.compile("(?ms)^```(\\w+)\n(.*?)^```$");
    private static final Pattern CALL = Pattern.compile("x\\.(\\w+\\([-\\d, ]*\\)); +// (-?\\d+|[A-Z]+)(: .+)?");
    private static final Pattern SETUP = Pattern.compile(
        "LoafParts x = new LoafParts\\(\\);|Shares\\.write\\(x, \\d, \"[^\"]*\"\\);( +// .*)?");
    private static final Pattern REFUSAL = Pattern.compile("(?m)^\\| `([A-Z]+)` \\| (-\\d+) \\|");
    private static final Pattern TEST_ROW = Pattern.compile("(?m)^\\| (\\w+Test) \\|");
    private static final Pattern TEST_METHOD = Pattern.compile("`(promise\\d\\d_\\w+)`");

    private record Block(String kind, String text) {
    }

    public static void main(String[] args) {
        Tests.runAll(ReadmeTest.class);
    }

    static void readme_programPrintsWhatIsTold(Run x) throws IOException, InterruptedException {
        List<Block> blocks = blocks();
        int at = 0;
        while (at < blocks.size() && !blocks.get(at).kind.equals("sh")) {
            at++;
        }
        Path project = newProject();
        String printed = run(x, project, blocks.get(at).text);
        x.is("a text comes behind the commands", blocks.get(at + 1).kind.equals("text") ? 1 : 0, 1);
        x.is("the program prints " + printed, printed.equals(blocks.get(at + 1).text) ? 1 : 0, 1);
        remove(project.getParent());
    }

    /** Nothing but calls with their answers stands behind the program, so that none is shown that is not run. */
    static void readme_callsAnswerWhatIsTold(Run x) throws IOException, InterruptedException {
        StringBuilder program = new StringBuilder("public final class ReadmeRun {\n"
            + "    public static void main(String[] args) {\n");
        List<String> calls = new ArrayList<>();
        List<Integer> due = new ArrayList<>();
        for (Block block : javaBlocks().subList(1, javaBlocks().size())) {
            for (String line : block.text.split("\n")) {
                Matcher call = CALL.matcher(line);
                if (call.matches()) {
                    program.append("        System.out.println(x.").append(call.group(1)).append(");\n");
                    calls.add(call.group(1));
                    due.add(valueOf(call.group(2)));
                } else {
                    x.is("this is a call with its answer: " + line, SETUP.matcher(line).matches() ? 1 : 0, 1);
                    program.append("        ").append(line).append('\n');
                }
            }
        }
        program.append("    }\n}\n");
        Path project = newProject();
        Files.writeString(project.resolve("ReadmeRun.java"), program);
        String[] got = run(x, project, "javac -d out src/main/java/LoafParts.java Shares.java ReadmeRun.java\n"
            + "java -cp out ReadmeRun\n").split("\n");
        x.is("a short run of calls", due.size() >= 20 && due.size() <= 512 ? 1 : 0, 1);
        x.is("answers", got.length, due.size());
        for (int k = 0; k < due.size() && k < got.length; k++) {
            x.is("README.md's x." + calls.get(k), Long.parseLong(got[k]), due.get(k));
        }
        remove(project.getParent());
    }

    static void readme_commandsWork(Run x) throws IOException, InterruptedException {
        Path project = newProject();
        int commands = 0;
        boolean whole = false;
        for (Block block : blocks()) {
            if (block.kind.equals("sh")) {
                commands++;
                whole |= block.text.equals(WHOLE_CI + "\n");
                if (!block.text.contains(WHOLE_CI)) {
                    run(x, project, block.text);
                }
            }
        }
        x.is("commands are shown", commands >= 2 ? 1 : 0, 1);
        x.is("how all tests are run is shown", whole ? 1 : 0, 1);
        remove(project.getParent());
    }

    static void readme_refusalsHaveTheirNumbers(Run x) throws IOException, ReflectiveOperationException {
        Set<String> told = new TreeSet<>();
        Matcher row = REFUSAL.matcher(Files.readString(README));
        while (row.find()) {
            told.add(row.group(1));
            x.is(row.group(1), Integer.parseInt(row.group(2)), LoafParts.class.getField(row.group(1)).getInt(null));
        }
        x.is("all are told: " + told, told.size(), LoafParts.class.getFields().length);
    }

    /** Each one that can be shown by a few calls is shown; SPENT is never answered. */
    static void readme_showsEachRefusal(Run x) throws IOException {
        String shown = javaBlocks().get(javaBlocks().size() - 1).text;
        for (String refusal : List.of("BAD", "FULL", "FINDING", "STATE", "NONE")) {
            x.is(refusal + " is shown", shown.contains("// " + refusal) ? 1 : 0, 1);
        }
    }

    static void readme_listsEachTest(Run x) throws IOException {
        Set<String> listed = new TreeSet<>();
        Matcher row = TEST_ROW.matcher(Files.readString(README));
        while (row.find()) {
            listed.add(row.group(1) + ".java");
        }
        Set<String> there = new TreeSet<>();
        StringBuilder sources = new StringBuilder();
        for (File file : new File("src/test/java").listFiles()) {
            if (file.getName().endsWith("Test.java")) {
                there.add(file.getName());
                sources.append(Files.readString(file.toPath()));
            }
        }
        x.is("listed are " + listed + ", there are " + there, listed.equals(there) ? 1 : 0, 1);
        Matcher name = TEST_METHOD.matcher(Files.readString(README));
        while (name.find()) {
            x.is(name.group(1) + " is there", sources.indexOf(" " + name.group(1) + "(") >= 0 ? 1 : 0, 1);
        }
    }

    private static int valueOf(String answer) {
        switch (answer) {
            case "BAD": return LoafParts.BAD;
            case "FULL": return LoafParts.FULL;
            case "FINDING": return LoafParts.FINDING;
            case "STATE": return LoafParts.STATE;
            case "NONE": return LoafParts.NONE;
            default: return Integer.parseInt(answer);
        }
    }

    private static List<Block> blocks() throws IOException {
        List<Block> found = new ArrayList<>();
        Matcher block = BLOCK.matcher(Files.readString(README));
        while (block.find()) {
            found.add(new Block(block.group(1), block.group(2)));
        }
        return found;
    }

    /** The program Shares first, then the calls. */
    private static List<Block> javaBlocks() throws IOException {
        return blocks().stream().filter(block -> block.kind.equals("java")).toList();
    }

    /** A folder with the project's sources and Shares.java, the shared tests beside it, as README.md wants them. */
    private static Path newProject() throws IOException {
        Path room = Files.createTempDirectory("readme");
        Path project = Files.createDirectory(room.resolve("project"));
        copyTree(Path.of("src"), project.resolve("src"));
        copyTree(SHARED_TESTS, room.resolve("shared/tests"));
        Files.writeString(project.resolve("Shares.java"), javaBlocks().get(0).text);
        return project;
    }

    private static void copyTree(Path from, Path to) throws IOException {
        for (Path file : below(from)) {
            if (Files.isRegularFile(file)) {
                Path copy = to.resolve(from.relativize(file).toString());
                Files.createDirectories(copy.getParent());
                Files.write(copy, Files.readAllBytes(file));
            }
        }
    }

    private static void remove(Path folder) throws IOException {
        List<Path> all = new ArrayList<>(below(folder));
        all.sort(Comparator.reverseOrder());
        for (Path file : all) {
            Files.delete(file);
        }
    }

    private static List<Path> below(Path folder) throws IOException {
        try (Stream<Path> files = Files.walk(folder)) {
            return files.toList();
        }
    }

    /** What the commands print; what the tools say aside, on the error stream, is none of it. */
    private static String run(Run x, Path folder, String commands) throws IOException, InterruptedException {
        Process process = new ProcessBuilder("bash", "-e", "-c", commands).directory(folder.toFile())
            .redirectError(ProcessBuilder.Redirect.INHERIT).start();
        String printed = new String(process.getInputStream().readAllBytes(), StandardCharsets.UTF_8);
        int exit = process.waitFor();
        x.is("exit of " + commands + printed, exit, 0);
        return printed;
    }
}
