import java.util.NoSuchElementException;

/** Bounds of promises 1 to 16: the tape, what is so, acts, DAYS, acts undone. */
final class ActBounds {
    private static final String THREE = "person ann 0 0 5;person bob 4 0 8;person cid 10 10 6;"
        + "ring gold 6 ann bob 2;ring tin 8 bob bob 0;ring zinc 10 cid bob 9;fit 1;walk 3;jingle 3;";
    private static final String TWO = "person a 3 4 5;person b 3 4 6;ring r 5 a b 0;ring s 6 b a 5;jingle 2;";
    private static final int[] NO_PERSON_OF_TWO = {-1, 2, 7, Integer.MIN_VALUE, Integer.MAX_VALUE};

    private ActBounds() {
    }

    /** TWO with RING s LOST at 3 4, on DAY 1; b stands there, a has gone away. */
    private static RingKeepers withALostOne() {
        RingKeepers x = Checks.on(TWO);
        x.hand(1, 0, 0);
        x.days(1);
        x.go(0, 3, 5);
        return x;
    }

    private static boolean throwsAtPerson(RingKeepers x, int p, int what) {
        try {
            x.person(p, what);
        } catch (NoSuchElementException e) {
            return true;
        }
        return false;
    }

    private static boolean throwsAtRing(RingKeepers x, int r, int what) {
        try {
            x.ring(r, what);
        } catch (NoSuchElementException e) {
            return true;
        }
        return false;
    }

    private static int number(String four) {
        return four.charAt(0) << 24 | four.charAt(1) << 16 | four.charAt(2) << 8 | four.charAt(3);
    }

    // 1

    @Says("An ISLAND without PERSONS;")
    static void p01_islandWithoutPersons(Checks c) {
        RingKeepers x = new RingKeepers();
        c.due("all that is so", Checks.so(x), "0 0 1 5 4 0 0 0 0 0 0 0 -1 ");
        c.due("no person", throwsAtPerson(x, 0, 0), true);
        c.due("no ring", throwsAtRing(x, 0, 0), true);
        c.due("days go by", x.days(1), 1);
        c.due("of nobody", Checks.sentence(x, "bare"), 1);
        c.due("nobody", x.said(-1), 0);
    }

    @Says("an empty tape.")
    static void p01_emptyTape(Checks c) {
        RingKeepers x = new RingKeepers();
        c.due("bytes", x.count(5), 0);
        c.due("end(1)", x.end(1), false);
        c.due("an island without lines", x.island(), 0);
    }

    @Says({"An object is used for at most 512 calls after it has been made;", "what later calls answer is free."})
    static void p01_the512thCallAnswers(Checks c) {
        RingKeepers x = Checks.on(TWO); // 6 calls
        for (int call = 7; call < 512; call++) {
            c.due("call " + call, x.drawn(1, call), call < 407 ? 1 : 0);
        }
        c.due("the 512th call", x.now(0), 400);
    }

    // 2

    @Says("Twenty bytes come behind the tape, of each number the highest first:")
    static void p02_highestByteFirst(Checks c) {
        RingKeepers x = new RingKeepers();
        x.feed(number("pers"), number("on a"), number("bcd "), number("1 2 "), number("13;p"));
        x.feed(number("erso"), number("n z "), number("20 0"), number(" 4; "), number("    "));
        c.due("island", x.island(), 2);
        c.due("name", Checks.noteOf(x, 0), "abcd keeps 0");
        c.due("finger", x.person(0, 2), 13);
        c.due("x behind them", x.person(1, 0), 20);
        x.feed(0x00_01_80_01, 0, 0, 0, 0);
        x.end(2);
        c.due("two bytes", x.sizes() > 0, true);
        x.feed(0x80_01_00_00, 0, 0, 0, 0);
        x.end(2);
        c.due("a byte of 128 is no person", x.sizes(), -1);
        x.feed(0x00_FF_00_00, 0, 0, 0, 0);
        x.end(2);
        c.due("a byte of 255 is no feel", x.sizes(), -1);
    }

    @Says("how many it has;")
    static void p02_howManyItHas(Checks c) {
        RingKeepers x = new RingKeepers();
        c.due("20", x.feed(1, 2, 3, 4, 5), 20);
        c.due("40", x.feed(-1, -1, -1, -1, -1), 40);
        x.end(3);
        c.due("23", x.feed(0, 0, 0, 0, 0), 23);
        x.island();
        c.due("20 again", x.feed(0, 0, 0, 0, 0), 20);
    }

    @Says("NONE, and none come, if it would have more than 940.")
    static void p02_noneBeyond940(Checks c) {
        RingKeepers x = new RingKeepers();
        for (int i = 1; i <= 46; i++) {
            c.due("feed", x.feed(0x20202020, 0x20202020, 0x20202020, 0x20202020, 0x20202020), 20 * i);
        }
        c.due("940", x.feed(0, 0, 0, 0, 0), 940);
        c.due("960", x.feed(0, 0, 0, 0, 0), -1);
        c.due("none came", x.count(5), 940);
        x.end(921);
        c.due("941", x.feed(0, 0, 0, 0, 0), -1);
        c.due("none came", x.count(5), 921);
        x.end(920);
        c.due("940 again", x.feed(0x20202020, 0x20202020, 0x20202020, 0x20202020, 0x20202020), 940);
        x.feed(number("fit "), number("9;  "), 0, 0, 0);
        x.end(900);
        c.due("blanks alone are there", x.island(), 0);
    }

    // 3

    @Says("The tape has its first n bytes alone: true;")
    static void p03_firstBytesAlone(Checks c) {
        RingKeepers x = new RingKeepers();
        c.due("end(0) of none", x.end(0), true);
        Checks.tape(x, "fit 3;walk 2");
        c.due("all of them", x.end(12), true);
        c.due("bytes", x.count(5), 12);
        c.due("six", x.end(6), true);
        c.due("bytes", x.count(5), 6);
        x.feed(number("jing"), number("le 5"), number(";   "), number("    "), number("    "));
        c.due("what was cut is gone", x.island(), 2);
        c.due("fit", x.count(2), 3);
        c.due("walk", x.count(3), 5);
        c.due("jingle", x.count(4), 5);
        x.feed(1, 2, 3, 4, 5);
        c.due("end(0)", x.end(0), true);
        c.due("no bytes", x.count(5), 0);
    }

    @Says("false, if it has not so many,")
    static void p03_falseIfItHasNotSoMany(Checks c) {
        RingKeepers x = new RingKeepers();
        c.due("1 of none", x.end(1), false);
        x.feed(0, 0, 0, 0, 0);
        c.due("21 of 20", x.end(21), false);
        c.due("too many", x.end(Integer.MAX_VALUE), false);
        c.due("they stay", x.count(5), 20);
        c.due("20 of 20", x.end(20), true);
        x.end(5);
        c.due("6 of 5", x.end(6), false);
    }

    @Says("or n is below 0.")
    static void p03_falseIfBelow0(Checks c) {
        RingKeepers x = new RingKeepers();
        c.due("-1 of none", x.end(-1), false);
        x.feed(0, 0, 0, 0, 0);
        c.due("-1", x.end(-1), false);
        c.due("least", x.end(Integer.MIN_VALUE), false);
        c.due("they stay", x.count(5), 20);
    }

    // 4, 5

    @Says("The tape (empty then, here and below) is the ISLAND now: how many LINES;")
    static void p04_tapeIsTheIslandAndEmptyThen(Checks c) {
        RingKeepers x = new RingKeepers();
        c.due("lines", Checks.isle(x, THREE), 9);
        c.due("bytes", x.count(5), 0);
        c.due("no lines", x.island(), 0);
        c.due("an island without persons", x.count(0), 0);
        c.due("a fault", Checks.isle(x, "fit 9;"), -5);
        c.due("bytes behind a fault", x.count(5), 0);
    }

    @Says("-1 less the place of a FAULT: it stays.")
    static void p04_faultLeavesTheIsland(Checks c) {
        RingKeepers x = Checks.on(THREE);
        Checks.sentence(x, "by bob");
        x.wear(1, 1);
        x.go(1, 4, 1);
        x.days(1);
        String so = Checks.so(x);
        c.due("at place 0", Checks.isle(x, "?"), -1);
        c.due("at place 19", Checks.isle(x, "fit 2;person z 1 1 0;"), -20);
        c.due("all stays", Checks.so(x), so);
        c.due("can be undone", x.undo(), 2);
    }

    /** What a run of calls of each kind answers. */
    private static String lifeOn(RingKeepers x) {
        StringBuilder text = new StringBuilder(Checks.answers(x));
        text.append('\n').append(x.go(2, 2, 2)).append(x.go(4, 2, 2)).append(x.hand(1, 0, 0)).append(x.hand(0, 0, 1));
        text.append(x.wear(1, 0)).append(x.wear(0, 1)).append(x.doff(1)).append(x.doff(4)).append(x.days(1));
        text.append(x.find(0, 1)).append(x.find(1, 1)).append(x.find(0, 3)).append('\n').append(Checks.so(x));
        text.append(Checks.book(x, 1, "cid goes 2 3;day 2;ann goes 4 4;")).append(' ').append(x.fault());
        text.append(Checks.book(x, 1, "a goes 3 3;")).append(' ').append(x.fault());
        text.append(Checks.sentence(x, "has r or by cid")).append(Checks.sentence(x, "has k")).append(x.said(-1));
        x.image(0);
        Checks.isle(x, TWO);
        text.append('\n').append(x.restore(0)).append(Checks.so(x));
        return text.toString();
    }

    @Says("a FAULT: it stays.")
    static void p04_faultyIslandShowsInNoCall(Checks c) {
        String island = "person ann 1 1 5;person bob 1 1 6;person cid 1 1 7;person dan 20 20 5;"
            + "ring r 6 cid bob 3;ring s 5 ann bob 2;ring t 5 dan ann 0;walk 3;jingle 2;";
        StringBuilder more = new StringBuilder();
        for (int i = 0; i < 7; i++) {
            more.append("person ").append((char) ('a' + i)).append(" 9 9 12;");
        }
        for (int i = 0; i < 7; i++) {
            more.append("ring ").append((char) ('k' + i)).append(" 20 g g 300;");
        }
        more.append("fit 5;walk 20;jingle 9;?");
        String want = lifeOn(Checks.on(island));
        for (String faulty : new String[] {more.toString(), "?", "person z 5 5 5;ring zz 1 z z 0;?"}) {
            RingKeepers x = Checks.on(island);
            c.due("a fault", Checks.isle(x, faulty) < 0, true);
            c.due("as without it", lifeOn(x), want);
        }
    }

    @Says({"A new ISLAND: DAY 0,", "nothing WORN or LOST, nothing HAD or MISSED, no SENTENCE."})
    static void p04_newIslandBeginsAnew(Checks c) {
        RingKeepers x = Checks.on(TWO);
        String so = Checks.so(x);
        Checks.sentence(x, "bare");
        x.hand(1, 0, 0);
        x.days(1);
        x.wear(0, 0);
        x.go(1, 4, 4);
        c.due("had", x.now(3), 1);
        c.due("lost", x.now(2), 2);
        c.due("again", Checks.isle(x, TWO), 5);
        c.due("as at first", Checks.so(x), so);
        c.due("the day", x.now(0), 0);
        c.due("worn", x.now(1), 0);
        c.due("lost", x.now(2), 0);
        c.due("had", x.now(3), 0);
        c.due("missed", x.now(4), 0);
        c.due("no sentence", x.said(-1), -1);
        x.days(1);
        c.due("missed", x.now(4), 1);
        Checks.isle(x, TWO);
        c.due("missed no more", x.now(4), 0);
        c.due("nothing of the one ahead is undone", x.undo(), -1);
        c.due("day", x.now(0), 0);
    }

    @Says("The kind of the FAULT of the latest island(), book() or sentence()")
    static void p05_kindOfTheLatest(Checks c) {
        RingKeepers x = Checks.on(TWO);
        Checks.isle(x, "fit 9;");
        c.due("island", x.fault(), 2);
        Checks.book(x, 0, "q doffs;");
        c.due("book", x.fault(), 3);
        Checks.sentence(x, "or");
        c.due("sentence", x.fault(), 1);
        Checks.book(x, 1, "day 1;".repeat(41));
        c.due("book lived", x.fault(), 4);
        Checks.sizes(x, 9, 9);
        x.end(-1);
        x.go(9, 9, 9);
        x.restore(0);
        c.due("others leave it", x.fault(), 4);
    }

    @Says("(a book() of -1000 leaves it);")
    static void p05_bookOfAnotherLivesLeavesIt(Checks c) {
        RingKeepers x = Checks.on("fit 9;");
        c.due("another lives", x.book(2), -1000);
        c.due("it is left", x.fault(), 2);
        Checks.isle(x, "");
        Checks.tape(x, "?");
        x.book(-1);
        c.due("0 is left", x.fault(), 0);
    }

    @Says("0 without one and ahead of any.")
    static void p05_noFault(Checks c) {
        RingKeepers x = new RingKeepers();
        c.due("ahead of any", x.fault(), 0);
        Checks.isle(x, "fit 9;");
        Checks.isle(x, TWO);
        c.due("island", x.fault(), 0);
        Checks.isle(x, "?");
        Checks.book(x, 0, "day 1;a doffs;");
        c.due("a book that is wrong has none", x.fault(), 0);
        Checks.isle(x, "?");
        Checks.sentence(x, "bare");
        c.due("sentence", x.fault(), 0);
    }

    // 6, 7

    @Says({"Of a PERSON: 0 X, 1 Y, 2 FINGER, 3 steps that are left today,", "6 RINGS that are his, as bits."})
    static void p06_ofAPerson(Checks c) {
        RingKeepers x = Checks.on(THREE);
        int[][] want = {{0, 0, 5, 3, 0, -1, 1}, {4, 0, 8, 3, 7, -1, 2}, {10, 10, 6, 3, 0, -1, 4}};
        for (int p = 0; p < 3; p++) {
            for (int what = 0; what < 7; what++) {
                c.due("person " + p + " " + what, x.person(p, what), want[p][what]);
            }
        }
        x.go(1, 5, 1);
        c.due("x", x.person(1, 0), 5);
        c.due("y", x.person(1, 1), 1);
        c.due("steps", x.person(1, 3), 1);
        x.days(1);
        c.due("steps anew", x.person(1, 3), 3);
    }

    @Says("4 RINGS that he keeps, as bits, 5 the one that he wears (NONE),")
    static void p06_keptAndWornOnes(Checks c) {
        RingKeepers x = Checks.on("person a 0 0 5;person b 0 0 5;ring e 5 a b 9;ring f 5 a b 9;ring g 5 a b 9;ring h 5 b b 9;"
            + "ring i 5 a b 9;ring j 5 a b 9;ring k 5 a b 9;jingle 9;");
        c.due("seven", x.person(1, 4), 127);
        c.due("none", x.person(0, 4), 0);
        c.due("wears none", x.person(1, 5), -1);
        c.due("his", x.person(0, 6), 119);
        x.wear(1, 6);
        c.due("six", x.person(1, 4), 63);
        c.due("wears the last", x.person(1, 5), 6);
        x.doff(1);
        x.wear(1, 0);
        c.due("wears the first", x.person(1, 5), 0);
        c.due("but the first", x.person(1, 4), 126);
        x.hand(1, 6, 0);
        c.due("handed on", x.person(0, 4), 64);
        c.due("whose stays", x.person(0, 6), 119);
    }

    @Says("NoSuchElementException: no such ones.")
    static void p06_noSuchPersonThrows(Checks c) {
        RingKeepers x = Checks.on(TWO);
        for (int p : NO_PERSON_OF_TWO) {
            c.due("person " + p, throwsAtPerson(x, p, 0), true);
        }
        c.due("the last one", throwsAtPerson(x, 1, 0), false);
    }

    @Says("NoSuchElementException: no such ones.")
    static void p06_noSuchWhatThrows(Checks c) {
        RingKeepers x = Checks.on(TWO);
        for (int what : new int[] {-1, 7, Integer.MIN_VALUE, Integer.MAX_VALUE}) {
            c.due("what " + what, throwsAtPerson(x, 0, what), true);
        }
        c.due("the last one", throwsAtPerson(x, 0, 6), false);
    }

    @Says("A call that throws changes nothing.")
    static void p06_throwingChangesNothing(Checks c) {
        RingKeepers x = withALostOne();
        x.tour(0);
        x.note(1);
        String so = Checks.so(x);
        String last = Checks.last(x);
        throwsAtPerson(x, 2, 0);
        throwsAtPerson(x, 0, 7);
        throwsAtRing(x, -1, 0);
        throwsAtRing(x, 0, 8);
        c.due("all that is so", Checks.so(x), so);
        c.due("what was told last", Checks.last(x), last);
        c.due("undo", x.undo(), 2);
    }

    @Says({"Of a RING: 0 SIZE, 1 whose it is, 2 who keeps or wears it (NONE: LOST), 3 the DAY on which it is due,",
        "6, 7 X and Y where it is."})
    static void p07_ofARing(Checks c) {
        RingKeepers x = Checks.on(THREE);
        int[][] want = {{6, 0, 1, 2, 0, 0, 4, 0}, {8, 1, 1, 0, 0, 0, 4, 0}, {10, 2, 1, 9, 0, 0, 4, 0}};
        for (int r = 0; r < 3; r++) {
            for (int what = 0; what < 8; what++) {
                c.due("ring " + r + " " + what, x.ring(r, what), want[r][what]);
            }
        }
        x.wear(1, 1);
        x.go(1, 5, 2);
        c.due("worn by", x.ring(1, 2), 1);
        c.due("x of a worn one", x.ring(1, 6), 5);
        c.due("y of a worn one", x.ring(1, 7), 2);
        c.due("x of a kept one", x.ring(0, 6), 5);
        c.due("y of a kept one", x.ring(0, 7), 2);
        RingKeepers y = withALostOne();
        y.go(1, 0, 4);
        c.due("lost: nobody's", y.ring(1, 2), -1);
        c.due("lost: x", y.ring(1, 6), 3);
        c.due("lost: y", y.ring(1, 7), 4);
    }

    @Says("4 how it is (0 KEPT, 1 WORN, 2 LOST),")
    static void p07_howItIs(Checks c) {
        RingKeepers x = Checks.on(TWO);
        c.due("kept", x.ring(1, 4), 0);
        x.wear(0, 1);
        c.due("worn", x.ring(1, 4), 1);
        x.doff(0);
        c.due("kept again", x.ring(1, 4), 0);
        x.hand(1, 0, 0);
        x.days(1);
        c.due("lost", x.ring(1, 4), 2);
        x.find(1, 1);
        c.due("found", x.ring(1, 4), 0);
    }

    @Says("A RING is KEPT by a PERSON, WORN by one, or LOST in a place.")
    static void p07_oneOfThreeThings(Checks c) {
        RingKeepers x = withALostOne();
        x.wear(0, 0);
        c.due("worn", x.now(1), 1);
        c.due("lost", x.now(2), 2);
        c.due("kept by a", x.person(0, 4), 0);
        c.due("kept by b", x.person(1, 4), 0);
        c.due("worn by b", x.person(1, 5), -1);
    }

    @Says("5 whether it was HAD (1), MISSED (2), or not yet due (0),")
    static void p07_hadMissedOrNotYetDue(Checks c) {
        RingKeepers x = Checks.on("person a 0 0 5;person b 0 0 5;ring p 5 a a 0;ring q 5 a b 0;ring r 5 a a 1;");
        c.due("not yet", x.ring(0, 5) + x.ring(1, 5) + x.ring(2, 5), 0);
        x.days(1);
        c.due("had", x.ring(0, 5), 1);
        c.due("missed", x.ring(1, 5), 2);
        c.due("not yet due", x.ring(2, 5), 0);
        x.hand(0, 0, 1);
        x.hand(1, 1, 0);
        x.days(1);
        c.due("was had", x.ring(0, 5), 1);
        c.due("was missed", x.ring(1, 5), 2);
        c.due("had now", x.ring(2, 5), 1);
    }

    @Says("NoSuchElementException: no such ones.")
    static void p07_noSuchRingThrows(Checks c) {
        RingKeepers x = Checks.on("person a 0 0 5;person b 0 0 5;person d 0 0 5;ring r 5 a a 0;");
        for (int r : new int[] {-1, 1, 2, 7, Integer.MIN_VALUE, Integer.MAX_VALUE}) {
            c.due("ring " + r, throwsAtRing(x, r, 0), true);
        }
        c.due("the last one", throwsAtRing(x, 0, 0), false);
    }

    @Says("NoSuchElementException: no such ones.")
    static void p07_noSuchWhatThrows(Checks c) {
        RingKeepers x = Checks.on(TWO);
        for (int what : new int[] {-1, 8, Integer.MIN_VALUE, Integer.MAX_VALUE}) {
            c.due("what " + what, throwsAtRing(x, 0, what), true);
        }
        c.due("the last one", throwsAtRing(x, 0, 7), false);
    }

    // 8

    @Says("It FITS a PERSON, if its SIZE is off his FINGER by 'fit' at most;")
    static void p08_offByFitAtMost(Checks c) {
        for (int fit = 0; fit <= 5; fit++) {
            RingKeepers x = Checks.on("person a 0 0 10;ring p " + (10 - fit) + " a a 0;ring q " + (10 + fit)
                + " a a 0;fit " + fit + ";");
            c.due("less by " + fit, x.fits(0, 0), 1);
            c.due("more by " + fit, x.fits(1, 0), 1);
        }
    }

    @Says("it is TIGHT, if it is less than that,")
    static void p08_tightIfLess(Checks c) {
        for (int fit = 0; fit <= 5; fit++) {
            RingKeepers x = Checks.on("person a 0 0 10;ring p " + (9 - fit) + " a a 0;ring q 1 a a 0;fit " + fit + ";");
            c.due("just less, fit " + fit, x.fits(0, 0), 0);
            c.due("least, fit " + fit, x.fits(1, 0), 0);
        }
    }

    @Says("LOOSE, if it is more.")
    static void p08_looseIfMore(Checks c) {
        for (int fit = 0; fit <= 5; fit++) {
            RingKeepers x = Checks.on("person a 0 0 10;ring p " + (11 + fit) + " a a 0;ring q 20 a a 0;fit " + fit + ";");
            c.due("just more, fit " + fit, x.fits(0, 0), 2);
            c.due("greatest, fit " + fit, x.fits(1, 0), 2);
        }
    }

    @Says("How a RING would be on a PERSON: 0 TIGHT, 1 it FITS, 2 LOOSE;")
    static void p08_whoeverHasIt(Checks c) {
        RingKeepers x = withALostOne();
        c.due("a lost one", x.fits(1, 0), 1);
        x.wear(0, 0);
        c.due("a worn one", x.fits(0, 1), 1);
        Checks.isle(x, THREE);
        c.due("tight", x.fits(0, 1), 0);
        c.due("fits", x.fits(0, 0), 1);
        c.due("loose", x.fits(1, 0), 2);
    }

    @Says("NONE: no such ones.")
    static void p08_noSuchOnes(Checks c) {
        RingKeepers x = Checks.on("person a 0 0 5;person b 0 0 5;ring r 5 a a 0;");
        for (int p : NO_PERSON_OF_TWO) {
            c.due("person " + p, x.fits(0, p), -1);
        }
        c.due("the last person", x.fits(0, 1), 1);
        for (int r : new int[] {-1, 1, 7, Integer.MIN_VALUE, Integer.MAX_VALUE}) {
            c.due("ring " + r, x.fits(r, 0), -1);
        }
        Checks.isle(x, "person a 0 0 5;ring r 5 a a 0;ring s 5 a a 0;");
        c.due("the last ring", x.fits(1, 0), 1);
        c.due("no second person", x.fits(0, 1), -1);
    }

    // 9

    @Says({"0 the DAY, 1 RINGS that are WORN, 2 LOST, 3 HAD, 4 MISSED, as bits each,"})
    static void p09_bitsOfRings(Checks c) {
        RingKeepers x = Checks.on("person a 0 0 5;person b 0 0 5;ring e 5 a a 0;ring f 5 a a 0;ring g 5 b a 0;ring h 5 b a 9;"
            + "ring i 5 a b 9;ring j 5 a b 9;ring k 5 a b 0;jingle 3;");
        x.wear(0, 0);
        x.wear(1, 5);
        c.due("worn", x.now(1), 1 | 32);
        c.due("lost, had, missed", x.now(2) | x.now(3) | x.now(4), 0);
        x.days(1);
        c.due("day", x.now(0), 1);
        c.due("worn still", x.now(1), 1 | 32);
        c.due("lost", x.now(2), 8);
        c.due("had", x.now(3), 1 | 2);
        c.due("missed", x.now(4), 4 | 64);
    }

    @Says("5 how often RINGS were HANDED so far, 6 steps gone so far.")
    static void p09_handedAndGoneSoFar(Checks c) {
        RingKeepers x = Checks.on(TWO);
        c.due("handed", x.now(5), 0);
        c.due("gone", x.now(6), 0);
        x.hand(1, 0, 0);
        x.hand(1, 0, 0);
        x.hand(0, 0, 1);
        c.due("handed twice", x.now(5), 2);
        x.go(0, 4, 6);
        x.go(1, 3, 3);
        x.go(1, 3, 3);
        x.go(1, 20, 20);
        c.due("four steps", x.now(6), 4);
        x.days(1);
        x.go(0, 0, 6);
        c.due("eight on the next day", x.now(6), 8);
        c.due("handed stays", x.now(5), 2);
        x.wear(0, 1);
        x.doff(0);
        c.due("wearing is no handing", x.now(5), 2);
        x.undo();
        x.undo();
        x.undo();
        c.due("a step undone is not gone", x.now(6), 4);
    }

    @Says("NONE for another what.")
    static void p09_anotherWhat(Checks c) {
        RingKeepers x = Checks.on(TWO);
        for (int what : new int[] {-1, 7, Integer.MIN_VALUE, Integer.MAX_VALUE}) {
            c.due("now " + what, x.now(what), -1);
        }
    }

    // 10

    @Says({"To GO: why not, the least: 1 he is there;", "A PERSON GOES to X, Y: 0, or why not;"})
    static void p10_heIsThere(Checks c) {
        RingKeepers x = Checks.on("person a 10 10 5;");
        c.due("there", x.go(0, 10, 10), 1);
        c.due("nothing is done", x.undo(), -1);
        c.due("all steps", x.go(0, 15, 10), 0);
        c.due("there, without steps", x.go(0, 15, 10), 1);
        c.due("x alone is alike", x.go(0, 15, 9), 2);
        x.days(1);
        c.due("y alone is alike", x.go(0, 14, 10), 0);
    }

    @Says("2 it is FARTHER than the steps that are left to him today:")
    static void p10_fartherThanTheStepsLeft(Checks c) {
        RingKeepers x = Checks.on("person a 10 10 5;person b 10 10 5;");
        c.due("six", x.go(0, 16, 10), 2);
        c.due("he stays", x.person(0, 0), 10);
        c.due("steps stay", x.person(0, 3), 5);
        c.due("nothing is done", x.undo(), -1);
        c.due("five", x.go(0, 15, 10), 0);
        c.due("one more", x.go(0, 15, 11), 2);
        c.due("steps of another", x.go(1, 10, 15), 0);
        x.days(1);
        c.due("the next day", x.go(0, 15, 11), 0);
        c.due("four are left, five", x.go(0, 15, 16), 2);
        c.due("four", x.go(0, 15, 15), 0);
    }

    @Says("FAR: by X and Y together.")
    static void p10_farByXAndYTogether(Checks c) {
        RingKeepers x = Checks.on("person a 10 10 5;");
        int[][] six = {{13, 13}, {7, 7}, {13, 7}, {7, 13}, {10, 16}, {10, 4}, {4, 10}, {16, 10}, {11, 5}};
        for (int[] place : six) {
            c.due("to " + place[0] + " " + place[1], x.go(0, place[0], place[1]), 2);
        }
        int[][] five = {{13, 12}, {7, 8}, {12, 7}, {8, 13}, {10, 15}, {10, 5}, {5, 10}, {15, 10}, {9, 6}};
        for (int[] place : five) {
            c.due("to " + place[0] + " " + place[1], x.go(0, place[0], place[1]), 0);
            c.due("no steps left", x.person(0, 3), 0);
            x.undo();
        }
    }

    @Says("he is there, with so many steps less.")
    static void p10_soManyStepsLess(Checks c) {
        RingKeepers x = Checks.on("person a 10 10 5;person b 10 10 5;");
        c.due("go", x.go(0, 12, 9), 0);
        c.due("x", x.person(0, 0), 12);
        c.due("y", x.person(0, 1), 9);
        c.due("steps", x.person(0, 3), 2);
        c.due("gone", x.now(6), 3);
        c.due("the other's x", x.person(1, 0), 10);
        c.due("the other's steps", x.person(1, 3), 5);
    }

    @Says("NONE: no such ones.")
    static void p10_noSuchPerson(Checks c) {
        RingKeepers x = Checks.on(TWO);
        for (int p : NO_PERSON_OF_TWO) {
            c.due("person " + p, x.go(p, 3, 5), -1);
        }
        c.due("nothing is done", x.undo(), -1);
    }

    @Says("NONE: no such ones.")
    static void p10_noSuchPlace(Checks c) {
        RingKeepers x = Checks.on("person a 10 10 5;person b 20 20 5;person d 0 0 5;walk 20;");
        int[] bad = {-1, 21, Integer.MIN_VALUE, Integer.MAX_VALUE};
        for (int at : bad) {
            for (int p = 0; p < 3; p++) {
                c.due("x " + at, x.go(p, at, 10), -1);
                c.due("y " + at, x.go(p, 10, at), -1);
            }
        }
        c.due("nothing is done", x.undo(), -1);
        int[][] corners = {{0, 0}, {20, 0}, {20, 20}, {0, 20}};
        for (int[] corner : corners) {
            c.due("to " + corner[0] + " " + corner[1], x.go(0, corner[0], corner[1]), 0);
            x.days(1);
        }
    }

    // 11

    @Says({"To HAND a RING: 1 they are alike;", "He HANDS a RING to a PERSON: 0, or why not;"})
    static void p11_alike(Checks c) {
        RingKeepers x = Checks.on(TWO);
        c.due("kept by him", x.hand(0, 1, 0), 1);
        c.due("not kept by him: the least", x.hand(0, 0, 0), 1);
        c.due("nothing is done", x.undo(), -1);
        c.due("none handed", x.now(5), 0);
    }

    @Says("2 he does not keep it (WORN ones are not kept);")
    static void p11_heDoesNotKeepIt(Checks c) {
        RingKeepers x = Checks.on(TWO);
        c.due("another does", x.hand(0, 0, 1), 2);
        x.wear(0, 1);
        c.due("worn", x.hand(0, 1, 1), 2);
        x.doff(0);
        x.go(1, 3, 5);
        c.due("nor in one place: the least", x.hand(0, 0, 1), 2);
        RingKeepers y = withALostOne();
        c.due("lost", y.hand(1, 1, 0), 2);
    }

    @Says("3 they are not in one place:")
    static void p11_notInOnePlace(Checks c) {
        RingKeepers x = Checks.on(TWO);
        x.go(1, 3, 5);
        c.due("y off by one", x.hand(1, 0, 0), 3);
        x.go(1, 2, 4);
        c.due("x off by one", x.hand(1, 0, 0), 3);
        x.go(0, 2, 4);
        c.due("in one place", x.hand(1, 0, 0), 0);
        c.due("handed", x.now(5), 1);
        Checks.isle(x, "person a 1 1 5;person b 2 2 5;person d 1 1 5;ring p 5 a a 0;ring q 5 a a 0;");
        c.due("the second to the third", x.hand(0, 1, 2), 0);
        c.due("the first to the second", x.hand(0, 0, 1), 3);
    }

    @Says("it is KEPT by the other one.")
    static void p11_keptByTheOther(Checks c) {
        RingKeepers x = Checks.on(TWO);
        c.due("hand", x.hand(1, 0, 0), 0);
        c.due("by whom", x.ring(0, 2), 0);
        c.due("how", x.ring(0, 4), 0);
        c.due("kept by a", x.person(0, 4), 3);
        c.due("kept by b", x.person(1, 4), 0);
        c.due("on", x.hand(0, 1, 1), 0);
        c.due("kept by b", x.person(1, 4), 2);
    }

    @Says("NONE: no such ones.")
    static void p11_noSuchOnes(Checks c) {
        RingKeepers x = Checks.on("person a 3 4 5;person b 3 4 6;ring r 5 a b 0;");
        for (int bad : NO_PERSON_OF_TWO) {
            c.due("person " + bad, x.hand(bad, 0, 0), -1);
            c.due("to person " + bad, x.hand(1, 0, bad), -1);
            c.due("alike " + bad, x.hand(bad, 0, bad), -1);
            c.due("ring " + bad, x.hand(1, bad, 0), -1);
        }
        c.due("the second ring", x.hand(1, 1, 0), -1);
        c.due("nothing is done", x.undo(), -1);
        c.due("the last person", x.hand(1, 0, 0), 0);
        c.due("to the last person", x.hand(0, 0, 1), 0);
        Checks.isle(x, "person a 3 4 5;person b 3 4 6;ring r 5 a b 0;ring s 5 a b 0;ring t 5 a b 0;");
        c.due("no third person", x.hand(2, 0, 0), -1);
        c.due("to no third person", x.hand(1, 0, 2), -1);
        c.due("the last ring", x.hand(1, 2, 0), 0);
    }

    // 12

    @Says({"To WEAR one: 1 he does not keep it;", "He WEARS a RING: 0, or why not;"})
    static void p12_heDoesNotKeepIt(Checks c) {
        RingKeepers x = Checks.on(TWO);
        c.due("another does", x.wear(0, 0), 1);
        c.due("he wears", x.wear(0, 1), 0);
        c.due("he wears just it: the least", x.wear(0, 1), 1);
        c.due("wears one, does not keep it: the least", x.wear(0, 0), 1);
        RingKeepers y = withALostOne();
        c.due("lost", y.wear(1, 1), 1);
        Checks.isle(y, "person a 0 0 5;person b 0 0 20;ring r 5 a a 0;");
        c.due("nor does it fit: the least", y.wear(1, 0), 1);
    }

    @Says("2 he wears one;")
    static void p12_heWearsOne(Checks c) {
        RingKeepers x = Checks.on("person a 0 0 5;person b 0 0 5;ring p 5 a a 0;ring q 5 a a 0;ring r 20 a a 0;ring s 5 a b 0;");
        c.due("wear", x.wear(0, 0), 0);
        c.due("a second", x.wear(0, 1), 2);
        c.due("that does not fit: the least", x.wear(0, 2), 2);
        c.due("another may", x.wear(1, 3), 0);
        x.doff(0);
        c.due("doffed, so he may", x.wear(0, 1), 0);
    }

    @Says("3 it does not FIT:")
    static void p12_itDoesNotFit(Checks c) {
        RingKeepers x = Checks.on("person a 0 0 10;ring p 7 a a 0;ring q 8 a a 0;ring r 12 a a 0;ring s 13 a a 0;fit 2;jingle 9;");
        c.due("tight", x.wear(0, 0), 3);
        c.due("loose", x.wear(0, 3), 3);
        c.due("nothing is done", x.undo(), -1);
        c.due("just fits", x.wear(0, 1), 0);
        x.doff(0);
        c.due("fits just", x.wear(0, 2), 0);
    }

    @Says("it does not FIT: he wears it.")
    static void p12_heWearsIt(Checks c) {
        RingKeepers x = Checks.on(TWO);
        c.due("wear", x.wear(0, 1), 0);
        c.due("how", x.ring(1, 4), 1);
        c.due("by whom", x.ring(1, 2), 0);
        c.due("worn", x.person(0, 5), 1);
        c.due("kept", x.person(0, 4), 0);
        c.due("worn, as bits", x.now(1), 2);
    }

    @Says("NONE: no such ones.")
    static void p12_noSuchOnes(Checks c) {
        RingKeepers x = Checks.on("person a 3 4 5;person b 3 4 6;ring r 5 a b 0;");
        for (int bad : NO_PERSON_OF_TWO) {
            c.due("person " + bad, x.wear(bad, 0), -1);
            c.due("ring " + bad, x.wear(1, bad), -1);
        }
        c.due("the second ring", x.wear(1, 1), -1);
        c.due("nothing is done", x.undo(), -1);
        c.due("the last person", x.wear(1, 0), 0);
        Checks.isle(x, "person a 3 4 5;ring r 5 a a 0;ring s 5 a a 0;");
        c.due("no second person", x.wear(1, 0), -1);
        c.due("the last ring", x.wear(0, 1), 0);
    }

    // 13

    @Says({"To DOFF: 1 he wears none:", "He DOFFS the one that he wears: 0, or why not;"})
    static void p13_heWearsNone(Checks c) {
        RingKeepers x = Checks.on(TWO);
        c.due("none", x.doff(0), 1);
        x.wear(0, 1);
        c.due("the other wears none", x.doff(1), 1);
        c.due("doff", x.doff(0), 0);
        c.due("no more", x.doff(0), 1);
        c.due("two were done", x.undo(), 1);
    }

    @Says("he wears none: it is KEPT by him.")
    static void p13_keptByHim(Checks c) {
        RingKeepers x = Checks.on(TWO);
        x.wear(0, 1);
        x.doff(0);
        c.due("how", x.ring(1, 4), 0);
        c.due("by whom", x.ring(1, 2), 0);
        c.due("kept", x.person(0, 4), 2);
        c.due("worn", x.person(0, 5), -1);
    }

    @Says("NONE: no such one.")
    static void p13_noSuchOne(Checks c) {
        RingKeepers x = Checks.on(TWO);
        for (int p : NO_PERSON_OF_TWO) {
            c.due("person " + p, x.doff(p), -1);
        }
        Checks.isle(x, "person a 3 4 5;person b 3 4 5;");
        c.due("the last person", x.doff(1), 1);
        Checks.isle(x, "person a 3 4 5;ring r 5 a a 0;ring s 5 a a 0;");
        c.due("no second person", x.doff(1), -1);
    }

    // 14

    @Says({"To FIND one: 1 it is not LOST;", "He FINDS a RING: 0, or why not;"})
    static void p14_itIsNotLost(Checks c) {
        RingKeepers x = Checks.on(TWO);
        c.due("kept by another", x.find(0, 0), 1);
        c.due("kept by him", x.find(0, 1), 1);
        x.wear(0, 1);
        c.due("worn", x.find(1, 1), 1);
        x.go(1, 0, 4);
        c.due("nor there: the least", x.find(1, 1), 1);
        RingKeepers y = withALostOne();
        c.due("find", y.find(1, 1), 0);
        c.due("found, so not lost", y.find(1, 1), 1);
    }

    @Says("2 he is not where it was LOST:")
    static void p14_heIsNotThere(Checks c) {
        RingKeepers x = withALostOne();
        c.due("y off by one", x.find(0, 1), 2);
        x.go(0, 2, 4);
        c.due("x off by one", x.find(0, 1), 2);
        c.due("go", x.go(0, 3, 4), 0);
        c.due("there", x.find(0, 1), 0);
        Checks.isle(x, "person a 1 2 5;person b 8 9 5;ring r 5 a a 0;ring s 5 a a 0;ring t 5 a a 0;jingle 2;walk 20;");
        x.days(2);
        c.due("b is not there", x.find(1, 1), 2);
        x.go(1, 1, 9);
        c.due("x alone", x.find(1, 1), 2);
        x.go(1, 8, 2);
        x.days(1);
        c.due("y alone", x.find(1, 2), 2);
        x.go(1, 1, 2);
        x.go(0, 8, 9);
        c.due("he who lost it is not", x.find(0, 2), 2);
        c.due("b is", x.find(1, 2), 0);
    }

    @Says("where it was LOST: it is KEPT by him.")
    static void p14_keptByHim(Checks c) {
        RingKeepers x = withALostOne();
        c.due("find", x.find(1, 1), 0);
        c.due("how", x.ring(1, 4), 0);
        c.due("by whom", x.ring(1, 2), 1);
        c.due("kept", x.person(1, 4), 2);
        c.due("none lost", x.now(2), 0);
        c.due("finding is no handing", x.now(5), 1);
        x.go(1, 3, 2);
        c.due("it goes along", x.ring(1, 7), 2);
    }

    @Says("NONE: no such ones.")
    static void p14_noSuchOnes(Checks c) {
        RingKeepers x = withALostOne();
        for (int bad : NO_PERSON_OF_TWO) {
            c.due("person " + bad, x.find(bad, 1), -1);
            c.due("ring " + bad, x.find(1, bad), -1);
        }
        c.due("still lost", x.now(2), 2);
        Checks.isle(x, "person a 3 4 5;person b 3 4 5;person d 3 4 5;ring r 5 a a 0;ring s 5 a a 0;jingle 2;");
        x.days(1);
        c.due("no third ring", x.find(2, 2), -1);
        c.due("the last person", x.find(2, 1), 0);
        Checks.isle(x, "person a 3 4 5;ring r 5 a a 0;ring s 5 a a 0;jingle 2;");
        x.days(1);
        c.due("no second person", x.find(1, 1), -1);
        c.due("the last ring", x.find(0, 1), 0);
    }

    // 15

    @Says({"n (1 to 60) DAYS go by:", "NONE: not as told."})
    static void p15_oneTo60(Checks c) {
        RingKeepers x = Checks.on(TWO);
        for (int n : new int[] {0, -1, 61, Integer.MIN_VALUE, Integer.MAX_VALUE}) {
            c.due("days " + n, x.days(n), -1);
        }
        c.due("no day went", x.now(0), 0);
        c.due("nothing is done", x.undo(), -1);
        c.due("1", x.days(1), 1);
        c.due("60", x.days(60), 60);
        c.due("61 went", x.now(0), 61);
    }

    @Says({"DAYS go by: how many did;", "A DAY (0 to 399; 400: all are over) goes:"})
    static void p15_fewerAtTheEnd(Checks c) {
        RingKeepers x = Checks.on(TWO);
        for (int i = 0; i < 6; i++) {
            c.due("60", x.days(60), 60);
        }
        c.due("39", x.days(39), 39);
        c.due("the last day", x.now(0), 399);
        c.due("one of two", x.days(2), 1);
        c.due("all are over", x.now(0), 400);
        c.due("none", x.days(1), 0);
        c.due("none of 60", x.days(60), 0);
        c.due("over", x.now(0), 400);
        c.due("61 is not as told", x.days(61), -1);
    }

    @Says("each RING that is due on it is HAD, if whose it is keeps or wears it,")
    static void p15_hadIfWhoseItIsHasIt(Checks c) {
        RingKeepers x = Checks.on("person a 0 0 5;person b 0 0 5;ring p 5 a a 0;ring q 5 a a 0;ring r 5 a a 1;ring s 5 b b 0;");
        x.wear(0, 1);
        x.days(1);
        c.due("kept, worn, another's kept", x.now(3), 1 | 2 | 8);
        c.due("none missed", x.now(4), 0);
        x.days(1);
        c.due("that of the next day", x.now(3), 15);
    }

    @Says("else MISSED.")
    static void p15_missedElse(Checks c) {
        RingKeepers x = Checks.on("person a 0 0 5;person b 0 0 5;ring p 5 a b 0;ring q 5 a b 0;ring r 5 b a 1;ring s 5 b b 1;"
            + "ring t 5 b b 1;jingle 3;");
        x.wear(1, 0);
        x.days(1);
        c.due("worn and kept by another", x.now(4), 3);
        c.due("had", x.now(3), 0);
        c.due("lost", x.now(2), 16);
        x.days(1);
        c.due("kept by another, and lost", x.now(4), 1 | 2 | 4 | 16);
        c.due("had", x.now(3), 8);
    }

    @Says("each RING that is due on it")
    static void p15_dueOnTheFirstAndTheLastDay(Checks c) {
        RingKeepers x = Checks.on("person a 0 0 5;ring p 5 a a 0;ring q 5 a a 300;");
        x.days(1);
        c.due("due on 0", x.now(3), 1);
        for (int i = 0; i < 4; i++) {
            x.days(60);
        }
        x.days(59);
        c.due("day", x.now(0), 300);
        c.due("not yet", x.now(3), 1);
        x.days(1);
        c.due("due on 300", x.now(3), 3);
    }

    @Says("Then PERSON by PERSON who keeps as many as 'jingle' tells, or more:")
    static void p15_asManyAsJingleTells(Checks c) {
        String four = "person a 0 0 5;person b 0 0 5;ring p 5 a a 9;ring q 5 a a 9;ring r 5 a a 9;ring s 5 a a 9;";
        RingKeepers x = Checks.on(four + "jingle 5;");
        x.days(2);
        c.due("one less", x.now(2), 0);
        Checks.isle(x, four);
        x.days(1);
        c.due("as many as 4, without it told", x.now(2), 8);
        x.days(1);
        c.due("then one less", x.now(2), 8);
        Checks.isle(x, four + "jingle 2;");
        x.days(1);
        c.due("more: one alone each day", x.now(2), 8);
        x.days(1);
        c.due("one more", x.now(2), 12);
        x.days(9);
        c.due("till one less is left", x.now(2), 14);
        Checks.isle(x, "person a 0 0 5;ring d 5 a a 9;ring e 5 a a 9;ring f 5 a a 9;ring g 5 a a 9;ring h 5 a a 9;"
            + "ring i 5 a a 9;ring j 5 a a 9;jingle 7;");
        x.wear(0, 0);
        x.days(1);
        c.due("a worn one is not kept", x.now(2), 0);
        x.doff(0);
        x.days(1);
        c.due("seven are", x.now(2), 64);
    }

    @Says("PERSON by PERSON who keeps")
    static void p15_eachPersonMayLoseOne(Checks c) {
        RingKeepers x = Checks.on("person a 1 2 5;person b 3 4 5;person d 5 6 5;ring p 5 a a 9;ring q 5 a b 9;ring r 5 a a 9;"
            + "ring s 5 a b 9;ring t 5 a d 9;jingle 2;");
        x.days(1);
        c.due("two are lost", x.now(2), 4 | 8);
        c.due("where a is", x.ring(2, 6) * 100 + x.ring(2, 7), 102);
        c.due("where b is", x.ring(3, 6) * 100 + x.ring(3, 7), 304);
        Checks.isle(x, "person a 1 2 5;person b 3 4 5;person d 5 6 5;person e 7 8 5;ring p 5 a e 9;ring q 5 a e 9;jingle 2;");
        x.days(1);
        c.due("the last of more persons than rings", x.now(2), 2);
        c.due("where he is", x.ring(1, 6) * 100 + x.ring(1, 7), 708);
    }

    @Says("the one of these with the greatest number is LOST where he is.")
    static void p15_theGreatestNumberIsLost(Checks c) {
        RingKeepers x = Checks.on("person a 20 0 5;person b 0 0 5;ring p 5 b a 9;ring q 5 b a 9;ring r 5 b a 9;ring s 5 b b 9;"
            + "jingle 2;");
        x.wear(0, 2);
        x.days(1);
        c.due("the greatest that he keeps", x.now(2), 2);
        c.due("nobody has it", x.ring(1, 2), -1);
        c.due("x", x.ring(1, 6), 20);
        c.due("y", x.ring(1, 7), 0);
        c.due("worn stays", x.now(1), 4);
        x.go(0, 18, 0);
        c.due("it stays there", x.ring(1, 6), 20);
    }

    @Says("else MISSED. Then PERSON by PERSON")
    static void p15_hadAheadOfLost(Checks c) {
        RingKeepers x = Checks.on("person a 0 0 5;ring p 5 a a 0;ring q 5 a a 0;ring r 5 a a 1;jingle 3;");
        x.days(1);
        c.due("had, all of them that are due", x.now(3), 3);
        c.due("lost then", x.now(2), 4);
        x.days(1);
        c.due("a lost one is missed", x.now(4), 4);
        Checks.isle(x, "person a 0 0 5;ring p 5 a a 0;ring q 5 a a 0;jingle 2;");
        x.days(1);
        c.due("had and lost on one day", x.now(3) * 10 + x.now(2), 32);
    }

    @Says("It is the next DAY, all have 'walk' steps.")
    static void p15_theNextDayWithSteps(Checks c) {
        RingKeepers x = Checks.on("person a 0 0 5;person b 9 9 5;walk 3;");
        x.go(0, 1, 2);
        x.go(1, 9, 8);
        x.days(1);
        c.due("day", x.now(0), 1);
        c.due("a", x.person(0, 3), 3);
        c.due("b", x.person(1, 3), 3);
        c.due("steps gone stay", x.now(6), 4);
        c.due("they stay where they are", x.person(0, 1), 2);
    }

    // 16

    private static void isUndone(Checks c, RingKeepers x, String so, int more) {
        c.due("undo", x.undo(), more);
        c.due("as ahead of it", Checks.so(x), so);
    }

    @Says("The latest of go(), hand(), wear(), doff(), find() that was done,")
    static void p16_eachActIsUndone(Checks c) {
        RingKeepers x = withALostOne(); // hand, days, go
        String atFirst = Checks.so(x);
        x.find(1, 1);
        String found = Checks.so(x);
        x.wear(1, 1);
        String worn = Checks.so(x);
        x.doff(1);
        isUndone(c, x, worn, 5);
        isUndone(c, x, found, 4);
        isUndone(c, x, atFirst, 3);
        c.due("undo go", x.undo(), 2);
        c.due("y again", x.person(0, 1), 4);
        c.due("steps again", x.person(0, 3), 5);
        c.due("gone again", x.now(6), 0);
        c.due("undo days", x.undo(), 1);
        c.due("not lost", x.now(2), 0);
        c.due("not had", x.now(3), 0);
        c.due("undo hand", x.undo(), 0);
        c.due("kept again", x.ring(0, 2), 1);
        c.due("handed again", x.now(5), 0);
    }

    @Says("find() that was done,")
    static void p16_lostAgainElsewhereIsUndone(Checks c) {
        RingKeepers x = withALostOne();
        x.go(0, 3, 4);
        x.find(0, 1);
        x.go(0, 5, 4);
        String kept = Checks.so(x);
        x.days(1);
        c.due("lost again", x.ring(1, 6) * 100 + x.ring(1, 7), 504);
        isUndone(c, x, kept, 6);
        x.undo();
        c.due("undo the finding", x.undo(), 4);
        c.due("where it was lost at first", x.ring(1, 6) * 100 + x.ring(1, 7), 304);
        c.due("found there", x.find(1, 1), 0);
    }

    @Says("that was done, days() above 0, drawn() above 0,")
    static void p16_whatWasNotDoneIsNotUndone(Checks c) {
        RingKeepers x = Checks.on(TWO);
        x.go(0, 3, 4);
        x.go(0, 20, 20);
        x.hand(0, 0, 1);
        x.wear(0, 0);
        x.doff(0);
        x.find(0, 0);
        x.days(0);
        x.drawn(0, 1);
        x.go(-1, 0, 0);
        c.due("nothing", x.undo(), -1);
        for (int i = 0; i < 7; i++) {
            x.days(60);
        }
        c.due("over", x.now(0), 400);
        x.days(60);
        x.drawn(60, 1);
        c.due("the latest days above 0", x.undo(), 6);
        c.due("day", x.now(0), 360);
    }

    @Says("days() above 0, drawn() above 0")
    static void p16_drawnIsUndoneWhole(Checks c) {
        RingKeepers x = Checks.on(TWO);
        String so = Checks.so(x);
        x.drawn(20, 7);
        isUndone(c, x, so, 0);
        x.days(20);
        isUndone(c, x, so, 0);
    }

    @Says("a BOOK of which some LINE was lived is undone:")
    static void p16_bookIsUndoneWhole(Checks c) {
        RingKeepers x = Checks.on(TWO);
        String so = Checks.so(x);
        Checks.book(x, 1, "b hands r a;day 2;a goes 3 5;a goes 3 5;");
        isUndone(c, x, so, 0);
        Checks.book(x, 1, "day 1;");
        isUndone(c, x, so, 0);
        Checks.book(x, 1, "b hands r a;");
        c.due("lived on day 0", x.ring(0, 2), 0);
        isUndone(c, x, so, 0);
        Checks.book(x, 0, "day 1;");
        c.due("one that was judged alone is not", x.undo(), -1);
        Checks.book(x, 1, "a goes 3 4;day 1;");
        c.due("one whose first line is wrong is not", x.undo(), -1);
        Checks.book(x, 1, "");
        c.due("one without lines is not", x.undo(), -1);
        Checks.book(x, 1, "day 1;?");
        c.due("one with a fault is not", x.undo(), -1);
    }

    @Says("how many more can be (8 at most are kept);")
    static void p16_eightAreKept(Checks c) {
        RingKeepers x = Checks.on(TWO);
        for (int i = 0; i < 9; i++) {
            x.days(1);
        }
        for (int more = 7; more >= 0; more--) {
            c.due("undo", x.undo(), more);
            c.due("day", x.now(0), more + 1);
        }
        c.due("the ninth is not kept", x.undo(), -1);
        c.due("day", x.now(0), 1);
        for (int i = 0; i < 8; i++) {
            x.days(1);
        }
        for (int more = 7; more >= 0; more--) {
            c.due("undo of eight", x.undo(), more);
        }
        c.due("day again", x.now(0), 1);
    }

    @Says("can be (8 at most are kept); NONE: none is.")
    static void p16_noneIs(Checks c) {
        RingKeepers x = new RingKeepers();
        c.due("of a new object", x.undo(), -1);
        Checks.isle(x, TWO);
        c.due("of a new island", x.undo(), -1);
        x.days(1);
        c.due("of one", x.undo(), 0);
        c.due("of none", x.undo(), -1);
        c.due("an undo is not undone", x.now(0), 0);
    }
}
