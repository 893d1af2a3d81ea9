import java.io.IOException;
import java.lang.reflect.InvocationTargetException;
import java.lang.reflect.Method;
import java.nio.file.Files;
import java.nio.file.Path;
import java.util.ArrayList;
import java.util.Arrays;
import java.util.Comparator;
import java.util.List;
import java.util.regex.Matcher;
import java.util.regex.Pattern;

/**
 * Runs each test that bears Says, by itself. Its name begins with the promise's number (p04_..), its words stand in that
 * promise or in what is told above the promises; and no word of the document may be left that no test says.
 */
public final class BoundaryTests {
    private static final Path DOCUMENT = Path.of("../shared/DOC.md");
    private static final Class<?>[] HOLDERS = {TextBounds.class, ActBounds.class, PlanBounds.class, StoryBounds.class};
    private static final int PROMISES = 40;

    // 0: what is told above the promises
    private final String[] sections = new String[PROMISES + 1];
    private final boolean[][] isSaid = new boolean[PROMISES + 1][];
    private final int[] testsOf = new int[PROMISES + 1];
    private int wrong;
    private int many;

    public static void main(String[] args) throws IOException, IllegalAccessException {
        BoundaryTests all = new BoundaryTests();
        all.readDocument();
        for (Method test : tests()) {
            all.lookUp(test);
            all.run(test);
        }
        all.whatIsNotSaid();
        System.out.println("BoundaryTests: " + all.many + " tests, " + all.wrong + " not as due");
        if (all.wrong > 0) {
            System.exit(1);
        }
    }

    private static List<Method> tests() {
        List<Method> found = new ArrayList<>();
        for (Class<?> holder : HOLDERS) {
            Method[] methods = holder.getDeclaredMethods();
            Arrays.sort(methods, Comparator.comparing(Method::getName));
            for (Method m : methods) {
                if (m.isAnnotationPresent(Says.class)) {
                    found.add(m);
                }
            }
        }
        return found;
    }

    private void fails(String text) {
        wrong++;
        System.out.println(text);
    }

    private void readDocument() throws IOException {
        String[] parts = Files.readString(DOCUMENT).split("\n## ");
        StringBuilder above = new StringBuilder();
        for (String part : parts) {
            int line = part.indexOf('\n');
            Matcher head = Pattern.compile("Promise (\\d+):.*").matcher(part.substring(0, line));
            if (head.matches()) {
                // the face ahead of the words is SourceTests' matter
                sections[Integer.parseInt(head.group(1))] = plain(part.substring(line)).replaceFirst("^`[^`]*`: ", "");
            } else if (part.startsWith("Terms") || part.startsWith("What it is")) {
                above.append(plain(part.substring(line).replaceFirst("(?s)Best men.*==== 1\\.", ""))).append(' ');
            }
        }
        sections[0] = above.toString();
        for (int i = 0; i <= PROMISES; i++) {
            isSaid[i] = new boolean[sections[i].length()];
        }
    }

    private static String plain(String text) {
        return text.replaceAll("```(text)?|==== \\d\\.", " ").replaceAll("\\s+", " ").trim();
    }

    private void lookUp(Method test) {
        Matcher name = Pattern.compile("p(\\d\\d)_\\w+").matcher(test.getName());
        int promise = name.matches() ? Integer.parseInt(name.group(1)) : 0;
        if (promise < 1 || promise > PROMISES) {
            fails(test.getName() + " names no promise");
            return;
        }
        testsOf[promise]++;
        for (String words : test.getAnnotation(Says.class).value()) {
            if (!mark(promise, words) && !mark(0, words)) {
                fails(test.getName() + ": the document does not say, or says more than once: " + words);
            }
        }
    }

    private boolean mark(int section, String words) {
        int at = sections[section].indexOf(words);
        if (at < 0 || sections[section].indexOf(words, at + 1) >= 0) {
            return false;
        }
        Arrays.fill(isSaid[section], at, at + words.length(), true);
        return true;
    }

    private void run(Method test) throws IllegalAccessException {
        many++;
        Checks c = new Checks();
        try {
            test.invoke(null, c);
        } catch (InvocationTargetException e) {
            c.due("throws " + e.getCause(), true, false);
        }
        if (c.wrong() > 0) {
            fails("FAILED " + test.getName() + ": " + String.join(" .. ", test.getAnnotation(Says.class).value()));
        }
    }

    private void whatIsNotSaid() {
        for (int i = 0; i <= PROMISES; i++) {
            if (i > 0 && testsOf[i] == 0) {
                fails("promise " + i + " has no test");
            }
            StringBuilder left = new StringBuilder();
            for (int k = 0; k < isSaid[i].length; k++) {
                left.append(isSaid[i][k] ? '_' : sections[i].charAt(k));
            }
            for (String words : left.toString().split("_+")) {
                if (words.matches(".*[A-Za-z0-9].*")) {
                    fails((i == 0 ? "above the promises" : "promise " + i) + " no test says: " + words);
                }
            }
        }
    }
}
