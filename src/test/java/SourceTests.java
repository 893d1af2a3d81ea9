import java.io.IOException;
import java.lang.reflect.Constructor;
import java.lang.reflect.Field;
import java.lang.reflect.Method;
import java.lang.reflect.Modifier;
import java.nio.file.Files;
import java.nio.file.Path;
import java.util.ArrayList;
import java.util.List;
import java.util.Set;
import java.util.TreeSet;
import java.util.regex.Matcher;
import java.util.regex.Pattern;

/** What LANGUAGE.md asks that can be seen from the source's text and from the compiled class. */
public final class SourceTests {
    private static final Path SOURCE = Path.of("src/main/java/RingKeepers.java");
    private static final Path DOCUMENT = Path.of("../shared/DOC.md");
    private static final Checks c = new Checks();

    public static void main(String[] args) throws IOException {
        List<String> lines = Files.readAllLines(SOURCE);
        faceIsTheDocuments();
        nothingElseIsSeen();
        classesAreSmall();
        namesAreFree();
        wordsAreAllowed(lines);
        libraryIsAllowed(lines);
        methodsAreShort(lines);
        callsMakeNothing(lines);
        c.close("SourceTests");
    }

    private static String face(Method m) {
        StringBuilder text = new StringBuilder(m.getReturnType() + " " + m.getName() + "(");
        for (Class<?> type : m.getParameterTypes()) {
            text.append(text.charAt(text.length() - 1) == '(' ? "" : ", ").append(type);
        }
        return text.append(")").toString();
    }

    private static void faceIsTheDocuments() throws IOException { // rule 1
        Set<String> want = new TreeSet<>();
        Matcher m = Pattern.compile("    public (\\w+) (\\w+)\\(([^)]*)\\)").matcher(Files.readString(DOCUMENT));
        while (m.find()) {
            want.add(m.group(1) + " " + m.group(2) + "(" + m.group(3).replaceAll("(\\w+) \\w+", "$1") + ")");
        }
        Set<String> got = new TreeSet<>();
        for (Method method : RingKeepers.class.getDeclaredMethods()) {
            if (Modifier.isPublic(method.getModifiers())) {
                got.add(face(method));
            }
        }
        c.due("the document tells methods", want.size() > 30, true);
        c.due("public methods " + got, got.equals(want), true);
    }

    private static void nothingElseIsSeen() { // rule 1
        c.due("public and final", RingKeepers.class.getModifiers(), Modifier.PUBLIC | Modifier.FINAL);
        for (Field f : RingKeepers.class.getDeclaredFields()) {
            boolean isConstant = f.getName().equals("NONE") && Modifier.isPublic(f.getModifiers());
            c.due("field " + f.getName(), isConstant || Modifier.isPrivate(f.getModifiers()), true);
        }
        for (Method m : RingKeepers.class.getDeclaredMethods()) {
            boolean isFine = Modifier.isPublic(m.getModifiers()) || Modifier.isPrivate(m.getModifiers());
            c.due("method " + m.getName(), isFine, true);
        }
        Constructor<?>[] constructors = RingKeepers.class.getDeclaredConstructors();
        c.due("constructors", constructors.length, 1);
        for (Class<?> inner : RingKeepers.class.getDeclaredClasses()) {
            int is = inner.getModifiers();
            c.due("class " + inner.getName(), Modifier.isStatic(is) && !Modifier.isPublic(is) && !Modifier.isProtected(is), true);
        }
    }

    private static List<Class<?>> classes() {
        List<Class<?>> all = new ArrayList<>(List.of(RingKeepers.class.getDeclaredClasses()));
        all.add(RingKeepers.class);
        return all;
    }

    private static void classesAreSmall() { // rules 5, 11
        c.due("classes", classes().size() <= 12, true);
        for (Class<?> one : classes()) {
            int fields = 0;
            for (Field f : one.getDeclaredFields()) {
                boolean isStatic = Modifier.isStatic(f.getModifiers());
                fields += isStatic ? 0 : 1;
                c.due("static " + f.getName(), !isStatic || Modifier.isFinal(f.getModifiers()), true);
            }
            c.due("fields of " + one.getName(), fields <= 20, true);
            for (Method m : one.getDeclaredMethods()) {
                c.due("parameters of " + m.getName(), m.getParameterCount() <= 7, true);
            }
        }
    }

    private static void namesAreFree() { // rule 1: no private method bears the name of a public one
        Set<String> names = new TreeSet<>();
        for (Method m : RingKeepers.class.getDeclaredMethods()) {
            if (Modifier.isPublic(m.getModifiers())) {
                names.add(m.getName());
            }
        }
        for (Class<?> one : classes()) {
            for (Method m : one.getDeclaredMethods()) {
                boolean isFace = one == RingKeepers.class && Modifier.isPublic(m.getModifiers());
                c.due("name " + m.getName(), !isFace && names.contains(m.getName()), false);
            }
        }
    }

    private static void wordsAreAllowed(List<String> lines) { // rules 2 to 4, 6, 9, 10, 13
        String[] refused = {"->", "::", "\\bfinally\\b", "\\bcatch\\b", "\\btry\\b", "\\bsynchronized\\b", "\\bassert\\b",
            "Exact\\(", "System\\.(?!arraycopy)", "while \\(true\\)", "for \\(;;\\)", "\" \\+", "\\+ \"", "\\bhashCode\\b",
            "\\bstatic \\{", "\\bprotected\\b", "\\bdouble\\b", "\\bfloat\\b", "[^\\x00-\\x7f]", "\\t"};
        for (int i = 0; i < lines.size(); i++) {
            String line = lines.get(i);
            for (String word : refused) {
                c.due("line " + (i + 1) + " has " + word, Pattern.compile(word).matcher(line).find(), false);
            }
            boolean isImport = line.startsWith("import ");
            c.due("import", !isImport || line.equals("import java.util.NoSuchElementException;"), true);
            c.due("line " + (i + 1) + " throws", !line.contains("throw new") || line.contains("new NoSuchElementException()"), true);
        }
    }

    private static void libraryIsAllowed(List<String> lines) { // rule 4
        Set<String> told = Set.of("Integer.bitCount", "Math.min", "Math.max", "Math.abs", "System.arraycopy");
        Pattern call = Pattern.compile("\\b(Integer|Long|Math|System|Arrays|Character|String|Objects|Byte|Short)\\.\\w+");
        for (String line : lines) {
            Matcher m = call.matcher(line);
            while (m.find()) {
                c.due("library: " + m.group(), told.contains(m.group()), true);
            }
        }
    }

    private static void methodsAreShort(List<String> lines) { // rule 11
        Pattern head = Pattern.compile("^( {4}| {8})[^ }/*@].*\\(.*\\) ?(throws \\w+ )?\\{$");
        int methods = 0;
        for (int i = 0; i < lines.size(); i++) {
            Matcher m = head.matcher(lines.get(i));
            if (m.find()) {
                int end = i;
                while (end < lines.size() && !lines.get(end).equals(m.group(1) + "}")) {
                    end++;
                }
                methods++;
                c.due("lines of " + lines.get(i).trim(), end - i + 1 <= 60, true);
            }
        }
        c.due("methods were found", methods > 100, true);
    }

    /** All that is made is made with the object, so that no run of calls can fill the room. */
    private static void callsMakeNothing(List<String> lines) { // rule 12
        Set<String> inConstructors = Set.of("keptLands[k] = new Island();", "keptStates[k] = new State(land);",
            "keptSayings[k] = new Sentence();", "kept[i] = new State(land);");
        for (String line : lines) {
            String code = line.trim();
            if (code.contains("new ") && !code.startsWith("/") && !code.contains("throw new")) {
                boolean isField = code.startsWith("private final ");
                c.due("made: " + code, isField || inConstructors.contains(code), true);
            }
        }
    }
}
