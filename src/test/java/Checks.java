import java.nio.charset.StandardCharsets;
import java.util.NoSuchElementException;

/** What the tests share: counting wrong answers and feeding texts. */
final class Checks {
    private int wrong = 0;
    private int many = 0;

    void due(String call, long got, long want) {
        many++;
        if (got != want) {
            wrong++;
            System.out.println(call + " answered " + got + ", due is " + want);
        }
    }

    void due(String call, boolean got, boolean want) {
        due(call, got ? 1 : 0, want ? 1 : 0);
    }

    void throwsAtPerson(RingKeepers x, int p, int what) {
        boolean thrown = false;
        try {
            x.person(p, what);
        } catch (NoSuchElementException e) {
            thrown = true;
        }
        due("person(" + p + ", " + what + ") throws", thrown, true);
    }

    void throwsAtRing(RingKeepers x, int r, int what) {
        boolean thrown = false;
        try {
            x.ring(r, what);
        } catch (NoSuchElementException e) {
            thrown = true;
        }
        due("ring(" + r + ", " + what + ") throws", thrown, true);
    }

    int wrong() {
        return wrong;
    }

    void due(String call, String got, String want) {
        due(call + ": '" + got + "', due is '" + want + "'", got.equals(want), true);
    }

    void close(String name) {
        System.out.println(name + ": " + many + " answers, " + wrong + " not as due");
        if (wrong != 0) {
            System.exit(1);
        }
    }

    static int[] numbers(byte[] bytes, int from) {
        int[] five = new int[5];
        for (int i = 0; i < 20; i++) {
            int value = from + i < bytes.length ? bytes[from + i] & 255 : 0;
            five[i / 4] = five[i / 4] << 8 | value;
        }
        return five;
    }

    static void tape(RingKeepers x, String text) {
        byte[] bytes = text.getBytes(StandardCharsets.ISO_8859_1);
        for (int i = 0; i < bytes.length; i += 20) {
            int[] n = numbers(bytes, i);
            x.feed(n[0], n[1], n[2], n[3], n[4]);
        }
        x.end(bytes.length);
    }

    static RingKeepers on(String text) {
        RingKeepers x = new RingKeepers();
        isle(x, text);
        return x;
    }

    static int isle(RingKeepers x, String text) {
        tape(x, text);
        return x.island();
    }

    static int book(RingKeepers x, int lives, String text) {
        tape(x, text);
        return x.book(lives);
    }

    static int sentence(RingKeepers x, String text) {
        tape(x, text);
        return x.sentence();
    }

    static int sizes(RingKeepers x, int... bytes) {
        StringBuilder text = new StringBuilder();
        for (int b : bytes) {
            text.append((char) b);
        }
        tape(x, text.toString());
        return x.sizes();
    }

    /** ISLAND, all that is so, and the SENTENCE, as far as it tells: to see whether a call changed something. */
    static String so(RingKeepers x) {
        StringBuilder text = new StringBuilder();
        for (int what = 0; what < 5; what++) {
            text.append(x.count(what)).append(' ');
        }
        for (int what = 0; what < 7; what++) {
            text.append(x.now(what)).append(' ');
        }
        for (int p = 0; p < x.count(0); p++) {
            for (int what = 0; what < 7; what++) {
                text.append(x.person(p, what)).append(' ');
            }
        }
        for (int r = 0; r < x.count(1); r++) {
            for (int what = 0; what < 8; what++) {
                text.append(x.ring(r, what)).append(' ');
            }
        }
        for (int k = -1; k < x.count(0); k++) {
            text.append(x.said(k)).append(' ');
        }
        return text.toString();
    }

    /** What each call answers that asks and changes nothing that is so. */
    static String answers(RingKeepers x) {
        StringBuilder text = new StringBuilder();
        for (int p = 0; p <= x.count(0); p++) {
            text.append(x.tour(p)).append(' ').append(x.tourAt(0)).append(' ').append(x.chain(p)).append(' ')
                .append(x.closed(p)).append(' ').append(x.note(p)).append(' ').append(x.byteAt(0)).append(' ');
        }
        for (int r = 0; r <= x.count(1); r++) {
            text.append(x.reach(r)).append(' ').append(x.likely(r)).append(' ').append(x.odds(r, 30, 1)).append(' ');
            for (int p = 0; p <= x.count(0); p++) {
                text.append(x.fits(r, p)).append(' ');
            }
        }
        text.append(x.inTime()).append(' ').append(x.ways()).append(' ').append(x.keepers()).append(' ');
        text.append(sizes(x, 0, 1)).append(' ').append(sizes(x, 1, 0)).append(' ').append(x.knuckle());
        return text.toString();
    }

    /** What calls told last. */
    static String last(RingKeepers x) {
        StringBuilder text = new StringBuilder();
        for (int i = 0; i < 7; i++) {
            text.append(x.tourAt(i)).append(' ').append(x.keeperOf(i)).append(' ').append(x.byteAt(i)).append(' ');
        }
        for (int what = 0; what < 4; what++) {
            text.append(x.told(what)).append(' ');
        }
        return text.append(x.sizeLeast()).append(' ').append(x.knuckle()).append(' ').append(x.fault()).toString();
    }

    static String noteOf(RingKeepers x, int p) {
        int length = x.note(p);
        StringBuilder text = new StringBuilder();
        for (int i = 0; i < length; i++) {
            text.append((char) x.byteAt(i));
        }
        return text.toString();
    }
}
