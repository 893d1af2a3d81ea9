import java.nio.charset.StandardCharsets;
import java.util.ArrayList;
import java.util.List;
import java.util.NoSuchElementException;
import java.util.Random;

/** Runs of drawn calls on the class and on the Model: all answers must be alike, and nothing else may be thrown. */
public final class ModelTests {
    private static final int RUNS = 3000;
    private static final int CALLS = 500;
    private static final int THROWN = -123456;
    private static final String[] NAMES = {"a", "b", "c", "d", "e", "f", "g", "h", "p", "q", "r", "s", "t", "u", "v", "w"};
    private static final String[] ALL_WORDS = ("person ring fit walk jingle goes hands wears doffs finds day or and not "
        + "ringed happy bare has by keeps steps finger number ; < = > ( ) . 0 1 5 20 21 301 999 1000 a b r s zz ab1").split(" ");

    private final Random random;
    private final RingKeepers x = new RingKeepers();
    private final Model m = new Model();
    private final List<String> log = new ArrayList<>();
    private int wrong;

    private ModelTests(long seed) {
        random = new Random(seed);
    }

    public static void main(String[] args) {
        int bad = 0;
        for (int run = 0; run < RUNS && bad < 3; run++) {
            ModelTests one = new ModelTests(run);
            one.go();
            if (one.wrong > 0) {
                bad++;
                System.out.println("run " + run + ":");
                one.log.forEach(System.out::println);
            }
        }
        System.out.println("ModelTests: " + RUNS + " runs, " + bad + " bad");
        if (bad > 0) {
            System.exit(1);
        }
    }

    private int below(int n) {
        return random.nextInt(n);
    }

    private int number(int usual) {
        int kind = below(40);
        if (kind == 0) {
            return random.nextInt();
        }
        return kind <= 2 ? -1 : below(usual + 1);
    }

    private void due(String call, int got, int want) {
        log.add(call + " = " + got);
        if (got != want) {
            wrong++;
            log.add("   but due is " + want);
        }
    }

    private void due(String call, boolean got, boolean want) {
        due(call, got ? 1 : 0, want ? 1 : 0);
    }

    private void tape(String text) {
        log.add("TAPE " + text);
        byte[] bytes = text.getBytes(StandardCharsets.ISO_8859_1);
        for (int i = 0; i < bytes.length; i += 20) {
            int[] n = Checks.numbers(bytes, i);
            due("feed", x.feed(n[0], n[1], n[2], n[3], n[4]), m.feed(n));
        }
        due("end " + bytes.length, x.end(bytes.length), m.end(bytes.length));
    }

    private String islandText() {
        StringBuilder text = new StringBuilder();
        int persons = below(12) == 0 ? below(9) : 2 + below(6);
        int rings = below(12) == 0 ? below(9) : below(8);
        int side = below(3) == 0 ? 21 : 3;
        int thick = 1 + below(20);
        boolean odd = below(8) == 0;
        int greedy = below(3) == 0 ? below(Math.max(1, persons)) : -1;
        for (int p = 0; p < persons; p++) {
            text.append("person ").append(NAMES[p]).append(' ').append(below(side)).append(' ').append(below(side))
                .append(' ').append(1 + (thick + below(4)) % 20).append(';').append(gap());
        }
        for (int r = 0; r < rings; r++) {
            text.append("ring ").append(NAMES[8 + r % 8]).append(' ').append(1 + (thick + below(4)) % 20).append(' ')
                .append(NAMES[below(Math.max(1, persons))]).append(' ')
                .append(NAMES[greedy >= 0 ? greedy : below(Math.max(1, persons))])
                .append(' ').append(below(3) == 0 ? below(301) : below(12)).append(';').append(gap());
        }
        for (String what : new String[] {"fit", "walk", "jingle"}) {
            if (below(3) > 0) {
                text.append(what).append(' ').append(odd ? below(22) : what.equals("jingle") ? 2 + below(3) : 1 + below(5))
                    .append(';');
            }
        }
        return text.toString();
    }

    private String gap() {
        return below(6) == 0 ? below(2) == 0 ? "\n" : "  " : "";
    }

    private String bookText() {
        StringBuilder text = new StringBuilder();
        int lines = below(10) == 0 ? 36 + below(8) : below(8);
        for (int i = 0; i < lines; i++) {
            String who = NAMES[below(below(20) == 0 ? 9 : Math.max(1, x.count(0)))];
            String ring = NAMES[8 + below(below(20) == 0 ? 8 : Math.max(1, x.count(1)))];
            switch (lines > 30 ? 5 : below(7)) {
                case 0: text.append(who).append(" goes ").append(below(3)).append(' ').append(below(3)); break;
                case 1: text.append(who).append(" hands ").append(ring).append(' ').append(NAMES[below(7)]); break;
                case 2: text.append(who).append(" wears ").append(ring); break;
                case 3: text.append(who).append(" doffs"); break;
                case 4: text.append(who).append(" finds ").append(ring); break;
                default: text.append("day ").append(below(5) == 0 ? 1 + below(60) : 1 + below(3)); break;
            }
            text.append(';').append(gap());
        }
        return text.toString();
    }

    private String cond(int depth) {
        StringBuilder text = new StringBuilder(one(depth));
        while (below(3) == 0) {
            text.append(below(2) == 0 ? " or " : " and ").append(one(depth));
        }
        return text.toString();
    }

    private String one(int depth) {
        String ring = NAMES[8 + below(Math.max(1, x.count(1)))];
        String who = NAMES[below(Math.max(1, x.count(0)))];
        String measure = new String[] {" < ", "=", " > "}[below(3)] + below(8);
        switch (below(depth > 10 ? 9 : 12)) {
            case 0: return "ringed";
            case 1: return "happy";
            case 2: return "bare";
            case 3: return "has " + ring;
            case 4: return "by " + who;
            case 5: return "keeps" + measure;
            case 6: return "steps" + measure;
            case 7: return "finger" + measure;
            case 8: return "number" + measure;
            case 9: return "not " + one(depth + 1);
            default: return "(" + cond(depth + 1) + ")";
        }
    }

    /** Now and then a text is broken: a piece changed, left out or doubled, or blanks that make it long. */
    private String broken(String text, int most) {
        if (text.isEmpty() || below(3) > 0) {
            return text.length() > 940 ? text.substring(0, 940) : text;
        }
        int at = below(text.length());
        String piece = below(2) == 0 ? ALL_WORDS[below(ALL_WORDS.length)] : String.valueOf((char) below(256));
        String other = text;
        switch (below(5)) {
            case 0: other = text.substring(0, at) + piece + text.substring(at); break;
            case 1: other = text.substring(0, at) + text.substring(at + 1); break;
            case 2: other = text.substring(0, at); break;
            case 3: other = " ".repeat(Math.max(0, most - text.length() - 4 + below(9))) + text; break;
            default:
                int space = text.indexOf(' ', at);
                int next = text.indexOf(' ', space + 1);
                if (space >= 0 && next > space) {
                    other = text.substring(0, space + 1) + piece + text.substring(next);
                }
                break;
        }
        return other.length() > 940 ? other.substring(0, 940) : other;
    }

    private void go() {
        for (int i = 0; i < CALLS && wrong == 0; i++) {
            if (i == 0 || below(60) == 0) {
                island();
            }
            call();
        }
    }

    private void island() {
        x.end(0);
        m.end(0);
        tape(broken(islandText(), 900));
        due("island", x.island(), m.island());
        due("fault", x.fault(), m.fault());
    }

    private void call() {
        int p = number(7);
        int q = number(7);
        int r = number(7);
        switch (below(34)) {
            case 0: case 1: case 2: acts(); break;
            case 3: person(p, number(6)); break;
            case 4: ring(r, number(7)); break;
            case 5: due("fits " + r + " " + p, x.fits(r, p), m.fits(r, p)); break;
            case 6: all(); break;
            case 7: case 8: case 9: case 10: acts(); break;
            case 11: days(); break;
            case 12: due("undo", x.undo(), m.undo()); break;
            case 13: due("reach " + r, x.reach(r), m.reach(r)); break;
            case 14: due("inTime", x.inTime(), m.inTime()); break;
            case 15: tour(); break;
            case 16: due("tourAt " + q, x.tourAt(q), m.tourAt(q)); break;
            case 17: keepers(); break;
            case 18: due("keeperOf " + r, x.keeperOf(r), m.keeperOf(r)); break;
            case 19: sizes(); break;
            case 20: due("ways", x.ways(), m.ways()); break;
            case 21: due("likely " + r, x.likely(r), m.likely(r)); break;
            case 22: due("chain " + p, x.chain(p), m.chain(p)); break;
            case 23: due("closed " + p, x.closed(p), m.closed(p)); break;
            case 24: note(p); break;
            case 25: due("odds " + r + " " + q + " " + p, x.odds(r, q, p), m.odds(r, q, p)); break;
            case 26: book(); break;
            case 27: sentence(); break;
            case 28: said(); break;
            case 29: due("image " + p % 2, x.image(p % 2), m.image(p % 2)); break;
            case 30: due("restore " + p, x.restore(p), m.restore(p)); break;
            case 31: wild(); break;
            case 32: drawn(); break;
            default: due("count " + q, x.count(q), m.count(q)); break;
        }
    }

    private void acts() {
        int p = number(x.count(0));
        int r = number(x.count(1));
        int q = number(x.count(0));
        int toX = number(3);
        int toY = number(3);
        switch (below(7)) {
            case 0: due("hand " + p + " " + r + " " + q, x.hand(p, r, q), m.hand(p, r, q)); break;
            case 1: due("wear " + p + " " + r, x.wear(p, r), m.wear(p, r)); break;
            case 2: due("doff " + p, x.doff(p), m.doff(p)); break;
            case 3: due("find " + p + " " + r, x.find(p, r), m.find(p, r)); break;
            default: due("go " + p + " " + toX + " " + toY, x.go(p, toX, toY), m.go(p, toX, toY)); break;
        }
    }

    private void person(int p, int what) {
        int got = THROWN;
        int want = THROWN;
        try {
            got = x.person(p, what);
        } catch (NoSuchElementException e) {
            log.add("thrown");
        }
        try {
            want = m.person(p, what);
        } catch (NoSuchElementException e) {
            log.add("due to throw");
        }
        due("person " + p + " " + what, got, want);
    }

    private void ring(int r, int what) {
        int got = THROWN;
        int want = THROWN;
        try {
            got = x.ring(r, what);
        } catch (NoSuchElementException e) {
            log.add("thrown");
        }
        try {
            want = m.ring(r, what);
        } catch (NoSuchElementException e) {
            log.add("due to throw");
        }
        due("ring " + r + " " + what, got, want);
    }

    private void all() {
        for (int i = 0; i < x.count(0); i++) {
            for (int what = 0; what < 7; what++) {
                person(i, what);
            }
        }
        for (int i = 0; i < x.count(1); i++) {
            for (int what = 0; what < 8; what++) {
                ring(i, what);
            }
        }
        for (int what = -1; what < 8; what++) {
            due("now " + what, x.now(what), m.now(what));
        }
    }

    private void tour() {
        int p = number(x.count(0));
        due("tour " + p, x.tour(p), m.tour(p));
        for (int k = -1; k < 8; k++) {
            due("tourAt " + k, x.tourAt(k), m.tourAt(k));
        }
    }

    private void keepers() {
        due("keepers", x.keepers(), m.keepers());
        for (int r = -1; r < 8; r++) {
            due("keeperOf " + r, x.keeperOf(r), m.keeperOf(r));
        }
    }

    private void days() {
        int n = below(4) == 0 ? number(61) : number(3);
        due("days " + n, x.days(n), m.days(n));
    }

    private void drawn() {
        int n = below(4) == 0 ? number(61) : number(3);
        int seed = random.nextInt();
        due("drawn " + n + " " + seed, x.drawn(n, seed), m.drawn(n, seed));
    }

    private void sizes() {
        StringBuilder text = new StringBuilder();
        int pairs = below(10) == 0 ? below(11) : 1 + below(2);
        for (int i = 0; i < pairs; i++) {
            text.append((char) below(below(20) == 0 ? 256 : Math.max(1, x.count(0)))).append((char) below(below(20) == 0 ? 256 : 3));
        }
        if (below(20) == 0) {
            text.append((char) 0);
        }
        tape(text.toString());
        due("sizes", x.sizes(), m.sizes());
        due("sizeLeast", x.sizeLeast(), m.sizeLeast());
        due("knuckle", x.knuckle(), m.knuckle());
    }

    private void note(int p) {
        due("note " + p, x.note(p), m.note(p));
        for (int i = -1; i < 90; i++) {
            due("byteAt " + i, x.byteAt(i), m.byteAt(i));
        }
    }

    private void book() {
        tape(broken(bookText(), 400));
        int lives = below(15) == 0 ? number(3) : below(2);
        due("book " + lives, x.book(lives), m.book(lives));
        due("fault", x.fault(), m.fault());
        for (int what = -1; what < 5; what++) {
            due("told " + what, x.told(what), m.told(what));
        }
    }

    private void sentence() {
        tape(broken(cond(0), 200));
        due("sentence", x.sentence(), m.sentence());
        due("fault", x.fault(), m.fault());
        said();
    }

    private void said() {
        for (int k = -2; k < 8; k++) {
            due("said " + k, x.said(k), m.said(k));
        }
    }

    /** TOKENS at random, or bytes at random, as any of the texts. */
    private void wild() {
        StringBuilder text = new StringBuilder();
        int many = below(200);
        for (int i = 0; i < many; i++) {
            text.append(below(300) == 0 ? String.valueOf((char) below(256)) : ALL_WORDS[below(ALL_WORDS.length)]).append(' ');
        }
        tape(text.length() > 940 ? text.substring(0, 940) : text.toString());
        int[] five = {random.nextInt(), below(256), 0, -1, random.nextInt()};
        due("feed", x.feed(five[0], five[1], five[2], five[3], five[4]), m.feed(five));
        int n = number(960);
        due("end " + n, x.end(n), m.end(n));
        switch (below(4)) {
            case 0: due("island", x.island(), m.island()); break;
            case 1: due("book", x.book(1), m.book(1)); break;
            case 2: due("sentence", x.sentence(), m.sentence()); break;
            default: due("sizes", x.sizes(), m.sizes()); break;
        }
        due("fault", x.fault(), m.fault());
    }
}
