import java.io.IOException;
import java.lang.reflect.InvocationTargetException;
import java.lang.reflect.Method;
import java.lang.reflect.Modifier;
import java.nio.file.Files;
import java.nio.file.Path;
import java.util.ArrayList;
import java.util.Comparator;
import java.util.HashMap;
import java.util.List;
import java.util.Map;
import java.util.regex.Matcher;
import java.util.regex.Pattern;
import java.util.stream.Collectors;
import java.util.stream.Stream;

/** What README.md says of the class's use and of running the tests is so. */
public final class ReadmeHolds {
    private static final Path ROOT = Path.of(System.getProperty("project.root", ".")).toAbsolutePath().normalize();
    private static final Pattern CALL = Pattern.compile("x\\.(\\w+)\\(([^)]*)\\);");
    private static final Pattern ANSWER = Pattern.compile("// (-?\\d+)(:.*|; .*)?");

    private ReadmeHolds() {
    }

    private static List<String> blocks(String readme, String kind) {
        List<String> found = new ArrayList<>();
        Matcher m = Pattern.compile("```" + kind + "\n(.*?)```", Pattern.DOTALL).matcher(readme);
        while (m.find()) found.add(m.group(1));
        return found;
    }

    private static Map<String, Method> face() {
        Map<String, Method> methods = new HashMap<>();
        for (Method m : CurveRooms.class.getDeclaredMethods()) {
            if (Modifier.isPublic(m.getModifiers())) methods.put(m.getName(), m);
        }
        return methods;
    }

    private static Object[] numbers(String told) {
        return Stream.of(told.split(",")).map(String::trim).filter(s -> !s.isEmpty()).map(Integer::valueOf).toArray();
    }

    /** A line of the example without an object of its own: its calls, then what the last of them answers. */
    private static void exampleLine(CurveRooms x, String line) throws IllegalAccessException, InvocationTargetException {
        long got = 0;
        int calls = 0;
        for (Matcher call = CALL.matcher(line); call.find(); calls++) {
            got = ((Number) face().get(call.group(1)).invoke(x, numbers(call.group(2)))).longValue();
        }
        Matcher answer = ANSWER.matcher(line.substring(Math.max(0, line.indexOf("//"))));
        Check.holds("calls and an answer: " + line, calls > 0 && answer.matches());
        if (answer.matches()) Check.due(line, got, Long.parseLong(answer.group(1)));
    }

    private static void exampleAnswers(String readme) throws IllegalAccessException, InvocationTargetException {
        List<String> examples = blocks(readme, "java");
        Check.due("examples", examples.size(), 1);
        for (String example : examples) {
            List<String> lines = example.lines().collect(Collectors.toList());
            Check.holds("an object first", lines.get(0).startsWith("CurveRooms x = new CurveRooms();"));
            CurveRooms x = new CurveRooms();
            for (String line : lines.subList(1, lines.size())) exampleLine(x, line);
        }
    }

    private static void everyCallIsTold(String readme) {
        String table = readme.substring(readme.indexOf("| call |"), readme.indexOf("\n## Tests"));
        Map<String, Integer> told = new HashMap<>();
        for (Matcher m = Pattern.compile("`(\\w+)\\(([^)]*)\\)`").matcher(table); m.find();) {
            told.put(m.group(1), m.group(2).isEmpty() ? 0 : m.group(2).split(",").length);
        }
        Map<String, Integer> due = new HashMap<>();
        for (Method m : face().values()) due.put(m.getName(), m.getParameterCount());
        Check.holds("the calls that are told are the face: " + told, told.equals(due));
    }

    /** What .ci/run takes for a test is in the table of tests, and no other. */
    private static void everyTestIsTold(String readme) throws IOException {
        String table = readme.substring(readme.indexOf("| test |"));
        List<String> told = new ArrayList<>();
        for (String line : table.lines().filter(l -> l.startsWith("| `")).collect(Collectors.toList())) {
            for (Matcher m = Pattern.compile("`(\\w+)`").matcher(line.split("\\|")[1]); m.find();) told.add(m.group(1) + ".java");
        }
        List<String> due = new ArrayList<>();
        try (Stream<Path> files = Files.list(ROOT.resolve("src/test/java"))) {
            for (Path file : files.collect(Collectors.toList())) {
                if (Files.readString(file).contains("static void main")) due.add(file.getFileName().toString());
            }
        }
        told.sort(Comparator.naturalOrder());
        due.sort(Comparator.naturalOrder());
        Check.holds("the tests that are told are those that stand: " + told, told.equals(due));
    }

    private static void copyTree(Path from, Path to) throws IOException {
        try (Stream<Path> files = Files.walk(from)) {
            for (Path file : files.collect(Collectors.toList())) {
                Path there = to.resolve(from.relativize(file).toString());
                if (Files.isDirectory(file)) Files.createDirectories(there);
                else Files.copy(file, there);
            }
        }
    }

    private static void removeTree(Path tree) throws IOException {
        try (Stream<Path> files = Files.walk(tree)) {
            for (Path file : files.sorted(Comparator.reverseOrder()).collect(Collectors.toList())) Files.delete(file);
        }
    }

    private static int exitOf(String commands, Path where) throws IOException, InterruptedException {
        Path told = where.resolve("told.txt");
        ProcessBuilder shell = new ProcessBuilder("sh", "-e", "-c", commands);
        shell.directory(where.toFile()).redirectErrorStream(true).redirectOutput(told.toFile());
        int exit = shell.start().waitFor();
        if (exit != 0) System.out.println(Files.readString(told));
        return exit;
    }

    /** In a copy, so that the checkout stays clean; .ci/run runs this test itself, and Python may be absent. */
    private static void commandsWork(String readme) throws IOException, InterruptedException {
        Check.holds(".ci/run", Files.isExecutable(ROOT.resolve(".ci/run")));
        Path place = Files.createTempDirectory("readme");
        try {
            Path copy = Files.createDirectories(place.resolve("project"));
            copyTree(ROOT.resolve("src"), copy.resolve("src"));
            Files.createSymbolicLink(place.resolve("shared"), ROOT.resolve("../shared").toRealPath());
            int tried = 0;
            for (String commands : blocks(readme, "sh")) {
                if (commands.equals(".ci/run\n") || commands.contains("python3")) continue;
                Check.due("exit code of " + commands, exitOf(commands, copy), 0);
                tried++;
            }
            Check.due("blocks of commands", tried, 2);
        } finally {
            removeTree(place);
        }
    }

    public static void main(String[] args) throws Exception {
        String readme = Files.readString(ROOT.resolve("README.md"));
        exampleAnswers(readme);
        everyCallIsTold(readme);
        everyTestIsTold(readme);
        commandsWork(readme);
        Check.end();
    }
}
