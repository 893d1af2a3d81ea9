import java.io.IOException;
import java.lang.reflect.Method;
import java.lang.reflect.Modifier;
import java.nio.file.Files;
import java.nio.file.Path;
import java.util.ArrayList;
import java.util.Comparator;
import java.util.List;
import java.util.Set;
import java.util.TreeSet;
import java.util.regex.Matcher;
import java.util.regex.Pattern;
import java.util.stream.Stream;

/** Follows README.md word by word, in a copy of the project. */
public final class ReadmeTests {
    private static final Path SHARED = Path.of("../shared");
    private static final Checks c = new Checks();

    public static void main(String[] args) throws IOException, InterruptedException {
        String readme = Files.readString(Path.of("README.md"));
        callsAreTheFace(readme);
        testsAreTheFiles(readme);
        filesAreThere(readme);
        Path room = Files.createTempDirectory("readme");
        try {
            followedInACopy(readme, room);
        } finally {
            remove(room);
        }
        c.close("ReadmeTests");
    }

    private static List<String> blocks(String readme, String kind) {
        List<String> found = new ArrayList<>();
        Matcher m = Pattern.compile("(?s)```" + kind + "\n(.*?)```").matcher(readme);
        while (m.find()) {
            found.add(m.group(1));
        }
        return found;
    }

    private static Set<String> ticked(String pattern, String text) {
        Set<String> found = new TreeSet<>();
        Matcher m = Pattern.compile(pattern).matcher(text);
        while (m.find()) {
            found.add(m.group(1));
        }
        return found;
    }

    private static void callsAreTheFace(String readme) {
        Set<String> face = new TreeSet<>();
        for (Method m : RingKeepers.class.getDeclaredMethods()) {
            if (Modifier.isPublic(m.getModifiers())) {
                face.add(m.getName());
            }
        }
        Set<String> told = new TreeSet<>();
        int many = 0;
        for (String line : readme.split("\n")) {
            if (line.startsWith("| `")) {
                Set<String> calls = ticked("`(\\w+)`", line);
                many += calls.size();
                told.addAll(calls);
            }
        }
        c.due("calls that the table tells", told.toString(), face.toString());
        c.due("calls that it tells, each once", many, face.size());
    }

    private static void testsAreTheFiles(String readme) throws IOException {
        Set<String> files = new TreeSet<>();
        try (Stream<Path> all = Files.list(Path.of("src/test/java"))) {
            all.map(file -> file.getFileName().toString()).filter(name -> name.endsWith("Tests.java"))
                .forEach(name -> files.add(name.replace(".java", "")));
        }
        c.due("tests that it tells", ticked("(?m)^- `(\\w+Tests)`:", readme).toString(), files.toString());
    }

    private static void filesAreThere(String readme) {
        for (String name : ticked("`((?:\\.\\./|src/|\\.ci/)[\\w./]+)`", readme)) {
            c.due("there is " + name, Files.exists(Path.of(name)), true);
        }
        for (String name : ticked("`(\\w+Bounds|Model)`", readme)) {
            c.due("there is " + name, Files.exists(Path.of("src/test/java", name + ".java")), true);
        }
    }

    private static void followedInACopy(String readme, Path room) throws IOException, InterruptedException {
        Path project = room.resolve("main");
        copy(Path.of("src"), project.resolve("src"));
        copy(SHARED, room.resolve("shared"));
        List<String> commands = blocks(readme, "sh");
        List<String> programs = blocks(readme, "java");
        List<String> prints = blocks(readme, "text");
        c.due("commands", commands.size(), 3);
        c.due("programs", programs.size(), 1);
        c.due("what they print", prints.size(), 1);
        Files.writeString(project.resolve(ticked("Save this as `(\\w+\\.java)`", readme).iterator().next()), programs.get(0));
        c.due("the program prints", printed(project, commands.get(0)), prints.get(0));
        // .ci/run runs this test: it can't be run by it
        c.due("all tests", commands.get(1), ".ci/run\n");
        c.due(".ci/run can be run", Files.isExecutable(Path.of(".ci/run")), true);
        c.due("one test prints", printed(project, commands.get(2)).startsWith("PromiseTests: "), true);
    }

    /** What the commands print; their exit code must be 0. */
    private static String printed(Path where, String commands) throws IOException, InterruptedException {
        Process run = new ProcessBuilder("sh", "-e", "-c", commands).directory(where.toFile()).redirectErrorStream(true).start();
        String text = new String(run.getInputStream().readAllBytes());
        c.due("exit code of " + commands + text, run.waitFor(), 0);
        return text;
    }

    private static void copy(Path from, Path to) throws IOException {
        for (Path file : below(from)) {
            Path target = to.resolve(from.relativize(file).toString());
            if (Files.isDirectory(file)) {
                Files.createDirectories(target);
            } else {
                Files.write(target, Files.readAllBytes(file));
            }
        }
    }

    private static void remove(Path room) throws IOException {
        List<Path> files = below(room);
        files.sort(Comparator.reverseOrder());
        for (Path file : files) {
            Files.delete(file);
        }
    }

    private static List<Path> below(Path top) throws IOException {
        try (Stream<Path> all = Files.walk(top)) {
            return new ArrayList<>(all.toList());
        }
    }
}
