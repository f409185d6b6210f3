import java.io.File;
import java.io.IOException;
import java.lang.reflect.Method;
import java.lang.reflect.Modifier;
import java.net.URL;
import java.net.URLClassLoader;
import java.nio.file.Files;
import java.nio.file.Path;
import java.util.ArrayList;
import java.util.Comparator;
import java.util.List;
import java.util.regex.Matcher;
import java.util.regex.Pattern;
import java.util.stream.Stream;
import javax.tools.ToolProvider;

/** What README.md says: its calls answer as is said behind them, and its ways of running the tests run them all. */
public final class ReadmeTest {
    private static final Check CHECK = new Check("ReadmeTest");
    private static final Path README = Path.of("README.md");
    private static final Path SOURCE = Path.of("src/main/java/SpiritWall.java");
    private static final Path TESTS = Path.of("src/test/java");
    private static final Path SHARED = Path.of("../shared");
    private static final String RUN_ALL = ".ci/run";
    private static final Pattern CALL = Pattern.compile("((\\w+) (\\w+) = )?(.+?); +// (\"[^\"]*\"|throws \\w+|-?[\\w.]+)(: .+)?");

    public static void main(String[] args) throws Exception {
        String readme = Files.readString(README);
        Path room = Files.createTempDirectory("readme");
        try {
            calls(room.resolve("calls"), blocks(readme, "java"));
            allMethods(readme);
            allFiles(readme);
            allAreRun();
            commands(room, blocks(readme, "sh"));
        } finally {
            delete(room);
        }
        CHECK.end();
    }

    private static List<String> blocks(String readme, String language) {
        List<String> blocks = new ArrayList<>();
        Matcher matcher = Pattern.compile("```" + language + "\n(.*?)```", Pattern.DOTALL).matcher(readme);
        while (matcher.find()) blocks.add(matcher.group(1));
        return blocks;
    }

    // ---- the calls

    /** A class is made of all blocks: methods as they stand, calls in one method, in their order. */
    private static void calls(Path folder, List<String> blocks) throws Exception {
        StringBuilder methods = new StringBuilder();
        StringBuilder statements = new StringBuilder();
        int claims = 0;
        for (String block : blocks) {
            if (block.startsWith("static ")) {
                methods.append(block);
                continue;
            }
            for (String line : block.split("\n")) {
                Matcher call = CALL.matcher(line);
                boolean claim = call.matches();
                CHECK.due("what stands behind a call can be checked: " + line, claim, line.contains("//"));
                statements.append(claim ? claimed(line, call) : line).append('\n');
                if (claim) claims++;
            }
        }
        CHECK.due("README.md shows many calls", true, claims >= 60);
        String source = "public final class ReadmeCalls {\n" + methods
                + "public static java.util.List<Object[]> rows() {\njava.util.List<Object[]> rows = new java.util.ArrayList<>();\n"
                + statements + "return rows;\n}\n}\n";
        run(folder, source, claims);
    }

    private static String claimed(String line, Matcher call) {
        String quoted = '"' + line.replace("\\", "\\\\").replace("\"", "\\\"") + '"';
        String due = call.group(5);
        if (due.startsWith("throws ")) {
            return "try { rows.add(new Object[] {" + quoted + ", \"" + due + "\", \"answered \" + " + call.group(4) + "}); }\n"
                    + "catch (RuntimeException e) { rows.add(new Object[] {" + quoted + ", \"" + due
                    + "\", \"throws \" + e.getClass().getSimpleName()}); }";
        }
        String declared = call.group(1) == null ? "" : call.group(1) + call.group(4) + ";\n";
        String got = call.group(1) == null ? call.group(4) : call.group(3);
        return declared + "rows.add(new Object[] {" + quoted + ", " + due + ", " + got + "});";
    }

    private static void run(Path folder, String source, int claims) throws Exception {
        Files.createDirectories(folder);
        Path file = Files.writeString(folder.resolve("ReadmeCalls.java"), source);
        String classes = System.getProperty("java.class.path");
        int result = ToolProvider.getSystemJavaCompiler().run(null, System.out, System.out, "--release", "17", "-cp", classes,
                "-d", folder.toString(), file.toString());
        CHECK.due("the calls of README.md compile", 0, result);
        if (result != 0) return;
        try (URLClassLoader loader = new URLClassLoader(new URL[] {folder.toUri().toURL()})) {
            List<?> rows = (List<?>) loader.loadClass("ReadmeCalls").getMethod("rows").invoke(null);
            CHECK.due("claims of README.md", claims, rows.size());
            for (Object row : rows) {
                Object[] parts = (Object[]) row;
                CHECK.due((String) parts[0], parts[1], parts[2]);
            }
        }
    }

    private static void allMethods(String readme) {
        for (Method method : SpiritWall.class.getDeclaredMethods()) {
            if (!Modifier.isPublic(method.getModifiers())) continue;
            CHECK.due("README.md shows " + method.getName(), true, readme.contains("wall." + method.getName() + "("));
        }
    }

    // ---- the tests

    private static List<Path> testFiles() throws IOException {
        try (Stream<Path> files = Files.walk(TESTS)) {
            return files.filter(Files::isRegularFile).sorted().toList();
        }
    }

    private static String nameOf(Path file) {
        return file.getFileName().toString().replaceAll("\\.java$", "");
    }

    private static void allFiles(String readme) throws IOException {
        for (Path file : testFiles()) {
            CHECK.due("README.md tells of " + file, true, readme.contains("`" + nameOf(file) + "`"));
        }
        Matcher named = Pattern.compile("\\b[A-Z]\\w*Test\\b").matcher(readme);
        while (named.find()) {
            CHECK.due("there is " + named.group(), true, Files.exists(TESTS.resolve(named.group() + ".java")));
        }
    }

    /** .ci/run takes the files *Test.java: each file that can be run is one, and each test method in it is called. */
    private static void allAreRun() throws IOException {
        Pattern method = Pattern.compile("\n    (@Says\\([^\n]*(?:\n {8,}[^\n]*)*\n    )?(?:private )?static void (\\w+)\\(\\)");
        for (Path file : testFiles()) {
            String source = Files.readString(file);
            boolean test = file.toString().endsWith("Test.java");
            CHECK.due(file + " stands where " + RUN_ALL + " looks", TESTS, file.getParent());
            CHECK.due(file + " has a name by which it is run", source.contains("public static void main(String[] args)"), test);
            boolean ends = source.contains("CHECK.end();") || source.contains("check.end();") || source.contains("Boundary.runAll(");
            CHECK.due(file + " ends by what it found", true, ends || !test);
            boolean boundary = file.toString().endsWith("BoundaryTest.java");
            Matcher matcher = method.matcher(source);
            while (test && matcher.find()) {
                boolean called = source.split("\\b" + matcher.group(2) + "\\(\\)").length > 2;
                CHECK.due(file + " runs " + matcher.group(2), true, called || boundary && matcher.group(1) != null);
            }
        }
    }

    // ---- the commands

    private static void commands(Path room, List<String> blocks) throws Exception {
        CHECK.due("blocks of commands", 2, blocks.size());
        CHECK.due("the command that runs all tests", RUN_ALL + "\n", blocks.get(0));
        CHECK.due(RUN_ALL + " can be run", true, Files.isExecutable(Path.of(RUN_ALL)));
        List<StandIn> standIns = new ArrayList<>();
        standIns.add(new StandIn(room, "nothing fails", null, "4 passed, 0 failed"));
        for (String test : StandIn.ALL) standIns.add(new StandIn(room, test, test, "3 passed, 1 failed"));
        standIns.add(new StandIn(room, "no shared tests", null, "2 passed, 1 failed").without("../shared/tests"));
        standIns.add(new StandIn(room, "no class", null, "0 passed, 3 failed").without(SOURCE.toString()));
        Process alone = aloneCommands(room.resolve("alone/main"), blocks.get(1));
        for (StandIn standIn : standIns) standIn.begin(blocks.get(0));
        for (StandIn standIn : standIns) standIn.look();
        alone(room.resolve("alone/main"), alone);
    }

    /** The commands are given to a copy of this project. */
    private static Process aloneCommands(Path project, String commands) throws IOException {
        copy(Path.of("src"), project.resolve("src"));
        copy(SHARED, project.resolve(SHARED).normalize());
        return shell(project, commands);
    }

    private static void alone(Path project, Process process) throws Exception {
        CHECK.due("the other commands end", 0, process.waitFor());
        List<String> told = Files.readAllLines(project.resolve("told"));
        CHECK.due("TextTest alone", true, told.stream().anyMatch(line -> line.matches("TextTest: \\d+ checks, 0 wrong")));
        CHECK.due("RandomRunsTest alone", true, told.stream().anyMatch(line -> line.matches("RandomRunsTest: \\d+ checks, 0 wrong")));
        CHECK.due("no failure alone", false, told.stream().anyMatch(line -> line.matches(".*(due is|[Ee]xception|error:).*")));
    }

    private static Process shell(Path project, String commands) throws IOException {
        ProcessBuilder builder = new ProcessBuilder("bash", "-e", "-c", commands);
        builder.directory(project.toFile()).redirectErrorStream(true).redirectInput(new File("/dev/null"));
        return builder.redirectOutput(project.resolve("told").toFile()).start();
    }

    private static void copy(Path from, Path to) throws IOException {
        List<Path> files;
        try (Stream<Path> all = Files.walk(from)) {
            files = all.filter(Files::isRegularFile).toList();
        }
        for (Path file : files) {
            Path copy = to.resolve(from.relativize(file));
            Files.createDirectories(copy.getParent());
            Files.write(copy, Files.readAllBytes(file));
        }
    }

    private static void delete(Path folder) throws IOException {
        List<Path> files;
        try (Stream<Path> all = Files.walk(folder)) {
            files = all.sorted(Comparator.reverseOrder()).toList();
        }
        for (Path file : files) Files.delete(file);
    }

    /** A project with the class, .ci/run and four small tests, of which one may fail. */
    private static final class StandIn {
        static final List<String> PROJECT = List.of("OneTest", "TwoTest");
        static final List<String> OTHERS = List.of("RunsA", "RunsB");
        static final List<String> ALL = List.of("OneTest", "TwoTest", "RunsA", "RunsB");

        private final String label;
        private final Path root;
        private final Path project;
        private final String failing;
        private final String lastLine;
        private Process process;

        StandIn(Path room, String label, String failing, String lastLine) throws IOException {
            this.label = label;
            this.failing = failing;
            this.lastLine = lastLine;
            root = room.resolve(label.replace(' ', '-'));
            project = root.resolve("main");
            copy(Path.of(".ci"), project.resolve(".ci"));
            project.resolve(RUN_ALL).toFile().setExecutable(true);
            Files.createDirectories(project.resolve(SOURCE).getParent());
            Files.copy(SOURCE, project.resolve(SOURCE));
            write(project.resolve(TESTS), PROJECT);
            write(root.resolve("shared/tests"), OTHERS);
        }

        private void write(Path folder, List<String> names) throws IOException {
            Files.createDirectories(folder);
            for (String name : names) {
                Files.writeString(folder.resolve(name + ".java"), "public final class " + name
                        + " {\n public static void main(String[] args) {\n  System.out.println(\"ran " + name
                        + " \" + new SpiritWall().count(0));\n  System.exit(" + (name.equals(failing) ? 1 : 0) + ");\n }\n}\n");
            }
        }

        StandIn without(String path) throws IOException {
            delete(project.resolve(path).normalize());
            return this;
        }

        void begin(String command) throws IOException {
            process = shell(project, command);
        }

        void look() throws Exception {
            int exit = process.waitFor();
            List<String> told = Files.readAllLines(project.resolve("told"));
            CHECK.due(RUN_ALL + ", " + label + ": passes", lastLine.endsWith(" 0 failed"), exit == 0);
            CHECK.due(RUN_ALL + ", " + label + ": last line", lastLine, told.isEmpty() ? "" : told.get(told.size() - 1));
            boolean compiles = Files.exists(project.resolve(SOURCE));
            for (String name : PROJECT) ran(told, name, compiles);
            for (String name : OTHERS) ran(told, name, compiles && Files.exists(root.resolve("shared/tests")));
        }

        private void ran(List<String> told, String name, boolean there) {
            long times = told.stream().filter(line -> line.equals("ran " + name + " 0")).count();
            CHECK.due(RUN_ALL + ", " + label + ": runs " + name, there ? 1 : 0, times);
            String due = !there ? "" : name.equals(failing) ? "FAILED" : "passed";
            String prefix = OTHERS.contains(name) ? "shared " : "";
            String got = "";
            for (String line : told) {
                if (there && line.endsWith(": " + prefix + name)) got += line.substring(0, line.indexOf(':'));
            }
            CHECK.due(RUN_ALL + ", " + label + ": tells " + name, due, got);
        }
    }
}
