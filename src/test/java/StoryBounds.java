/** Bounds of promises 32 to 40: DRAWN DAYS, BOOKS lived, SENTENCES said, images, count. */
final class StoryBounds {
    private static final String THREE = "person ann 0 0 5;person bob 4 0 8;person cid 10 10 6;"
        + "ring gold 6 ann bob 2;ring tin 8 bob bob 0;ring zinc 10 cid bob 9;fit 1;walk 3;jingle 3;";
    private static final String TWO = "person a 3 4 5;person b 3 4 6;ring r 5 a b 0;ring s 6 b a 5;jingle 2;";
    private static final int[] NOT_OF_TWO = {-1, 2, 7, Integer.MIN_VALUE, Integer.MAX_VALUE};
    private static final String DAYS_399 = "day 60;day 60;day 60;day 60;day 60;day 60;day 39;";

    private StoryBounds() {
    }

    /** Draws as the document tells them, for a test that lives them by calls. */
    private static final class Draws {
        private int x;

        Draws(int seed) {
            x = seed;
        }

        int of(int n) {
            x = x * 1103515245 + 12345;
            return (x >>> 8) % n;
        }
    }

    /** Lives drawn DAYS by the calls of the face: how often the draw of 6 was each number. */
    private static int[] live(RingKeepers x, int n, int seed) {
        Draws draw = new Draws(seed);
        int[] often = new int[6];
        for (int day = 0; day < n; day++) {
            for (int p = 0; p < x.count(0); p++) {
                int act = draw.of(6);
                often[act]++;
                if (act <= 1) {
                    int toX = draw.of(21);
                    x.go(p, toX, draw.of(21));
                } else if (act == 2 && x.count(1) > 0) {
                    int r = draw.of(x.count(1));
                    x.hand(p, r, draw.of(x.count(0)));
                } else if (act == 3 && x.count(1) > 0) {
                    x.wear(p, draw.of(x.count(1)));
                } else if (act == 4) {
                    x.doff(p);
                }
            }
            x.days(1);
        }
        return often;
    }

    private static void isDrawnAsLived(Checks c, String island, int n, int seed) {
        RingKeepers drawn = Checks.on(island);
        RingKeepers lived = Checks.on(island);
        c.due("drawn " + n + " " + seed, drawn.drawn(n, seed), n);
        live(lived, n, seed);
        c.due("seed " + seed, Checks.so(drawn), Checks.so(lived));
    }

    // 32

    @Says("n (1 to 60) DAYS DRAWN by a seed: how many went by; NONE: not as told.")
    static void p32_oneTo60(Checks c) {
        RingKeepers x = Checks.on(TWO);
        String so = Checks.so(x);
        for (int n : new int[] {0, -1, 61, Integer.MIN_VALUE, Integer.MAX_VALUE}) {
            c.due("drawn " + n, x.drawn(n, 1), -1);
        }
        c.due("nothing changed", Checks.so(x), so);
        c.due("1", x.drawn(1, 1), 1);
        c.due("60", x.drawn(60, 1), 60);
        c.due("61 went", x.now(0), 61);
    }

    @Says("how many went by;")
    static void p32_fewerAtTheEnd(Checks c) {
        RingKeepers x = Checks.on(TWO);
        Checks.book(x, 1, DAYS_399);
        c.due("the last day", x.now(0), 399);
        c.due("one of 60", x.drawn(60, 5), 1);
        c.due("all are over", x.now(0), 400);
        String so = Checks.so(x);
        c.due("none", x.drawn(1, 5), 0);
        c.due("nothing changed", Checks.so(x), so);
        c.due("undo the last", x.undo(), 1);
        c.due("day", x.now(0), 399);
    }

    @Says({"DRAWN by a seed x: for each draw of n x becomes x * 1103515245 + 12345 (an int, wrapping),",
        "the draw is (x >>> 8) % n:"})
    static void p32_drawsWrap(Checks c) {
        String tall = "person a 10 10 5;person b 5 5 5;ring p 5 a b 3;ring q 5 b a 9;walk 20;jingle 2;";
        for (int seed : new int[] {0, 1, -1, 12345, Integer.MAX_VALUE, Integer.MIN_VALUE, -12345678, 987654321}) {
            isDrawnAsLived(c, tall, 20, seed);
        }
    }

    @Says("each DAY: PERSON by PERSON: a draw of 6: 0, 1: a draw of 21 (X), of 21 (Y): he GOES there;")
    static void p32_goesByTwoDraws(Checks c) {
        for (int seed = 0; seed < 40; seed++) {
            isDrawnAsLived(c, "person a 10 10 5;person b 0 20 5;walk 20;", 3, seed);
        }
    }

    @Says("2: a draw of all RINGS (none: no more draws), of all PERSONS: he HANDS it to that one;")
    static void p32_handsByTwoDraws(Checks c) {
        String[] close = {"person a 1 1 5;person b 1 1 5;person d 1 1 5;ring p 5 a a 3;ring q 5 a b 9;walk 1;",
            "person a 1 1 5;person b 1 1 5;ring p 5 a a 3;ring q 5 a b 9;ring r 5 a b 0;walk 1;"};
        for (String island : close) {
            int handed = 0;
            for (int seed = 0; seed < 40; seed++) {
                isDrawnAsLived(c, island, 5, seed);
                RingKeepers x = Checks.on(island);
                x.drawn(5, seed);
                handed += x.now(5);
            }
            c.due("rings were handed", handed > 0, true);
        }
    }

    @Says("(none: no more draws)")
    static void p32_noRingsNoMoreDrawsForHanding(Checks c) {
        withoutRings(c, 2);
    }

    @Says("3: a draw of all RINGS (none: no draw): he WEARS it;")
    static void p32_noRingsNoDrawForWearing(Checks c) {
        withoutRings(c, 3);
        int worn = 0;
        for (int seed = 0; seed < 40; seed++) {
            String own = "person a 1 1 5;person b 1 1 9;ring p 5 a a 3;ring q 5 a b 9;ring r 5 a b 9;";
            isDrawnAsLived(c, own, 2, seed);
            RingKeepers x = Checks.on(own);
            x.drawn(2, seed);
            worn |= x.now(1);
        }
        c.due("the one that fits was worn", worn, 1);
    }

    /** Seeds by which the first PERSON's first draw is this act: what comes behind it shows whether it drew more. */
    private static void withoutRings(Checks c, int act) {
        int found = 0;
        for (int seed = 0; seed < 200; seed++) {
            if (new Draws(seed).of(6) == act) {
                found++;
                isDrawnAsLived(c, "person a 10 10 5;person b 10 10 5;walk 20;", 2, seed);
            }
        }
        c.due("seeds were found", found > 10, true);
    }

    @Says("4: he DOFFS (each, if he can); then the DAY.")
    static void p32_doffsAndTheDay(Checks c) {
        String worn = "person a 1 1 5;ring p 5 a a 3;walk 2;";
        int doffed = 0;
        for (int seed = 0; seed < 60; seed++) {
            RingKeepers x = Checks.on(worn);
            x.wear(0, 0);
            x.drawn(1, seed);
            boolean doffs = new Draws(seed).of(6) == 4;
            c.due("seed " + seed, x.now(1), doffs ? 0 : 1);
            c.due("the day", x.now(0), 1);
            c.due("steps anew", x.person(0, 3), 2);
            doffed += doffs ? 1 : 0;
        }
        c.due("some doffed", doffed > 0, true);
    }

    @Says("(each, if he can)")
    static void p32_whoCannotDoesNot(Checks c) {
        // walk 1: hardly any place drawn is near enough; one ring that fits nobody, handed to himself at times
        for (int seed = 0; seed < 40; seed++) {
            isDrawnAsLived(c, "person a 10 10 5;person b 11 10 5;ring p 20 a a 9;walk 1;", 5, seed);
        }
    }

    // 33

    @Says("Of n (1 to 30) seeds x, x and 1, ..")
    static void p33_oneTo30Seeds(Checks c) {
        RingKeepers x = Checks.on(TWO);
        for (int n : new int[] {0, -1, 31, Integer.MIN_VALUE, Integer.MAX_VALUE}) {
            c.due("odds of " + n, x.odds(0, n, 1), -1);
        }
        int sum = 0;
        for (int seed = 5; seed < 35; seed++) {
            sum += x.odds(0, 1, seed);
            c.due("seeds 5 to " + seed, x.odds(0, seed - 4, 5), sum);
        }
        c.due("some of 30", sum > 0 && sum < 30, true);
    }

    @Says("x and 1, ..")
    static void p33_seedsWrap(Checks c) {
        RingKeepers x = Checks.on(TWO);
        int sum = 0;
        for (int i = 0; i < 10; i++) {
            sum += x.odds(1, 1, Integer.MAX_VALUE - 4 + i);
        }
        c.due("over the greatest", x.odds(1, 10, Integer.MAX_VALUE - 4), sum);
    }

    @Says("by how many a RING is with whose it is behind 20 DAYS DRAWN from now on;")
    static void p33_behind20Days(Checks c) {
        String island = "person a 1 1 5;person b 1 1 5;ring p 5 a b 3;ring q 5 b a 9;walk 1;jingle 2;";
        RingKeepers x = Checks.on(island);
        x.hand(1, 0, 0);
        x.days(2);
        String so = Checks.so(x);
        int[] often = new int[2];
        for (int seed = 100; seed < 115; seed++) {
            int p = x.odds(0, 1, seed);
            int q = x.odds(1, 1, seed);
            x.drawn(20, seed);
            c.due("p by " + seed, p, x.ring(0, 2) == 0 ? 1 : 0);
            c.due("q by " + seed, q, x.ring(1, 2) == 1 ? 1 : 0);
            often[0] += p;
            often[1] += q;
            x.undo();
        }
        c.due("p by 15", x.odds(0, 15, 100), often[0]);
        c.due("q by 15", x.odds(1, 15, 100), often[1]);
        c.due("nothing changed", Checks.so(x), so);
        c.due("nothing more to undo", x.undo(), 1);
    }

    @Says("behind 20 DAYS DRAWN")
    static void p33_neitherLessNorMoreThan20(Checks c) {
        String island = "person a 1 1 5;person b 1 1 5;ring p 5 a b 3;walk 1;";
        int[] others = new int[2];
        for (int from = 0; from < 240; from += 24) {
            RingKeepers x = Checks.on(island);
            for (int seed = from; seed < from + 24; seed++) {
                int odds = x.odds(0, 1, seed);
                c.due("20 days by " + seed, odds, withWhoseItIs(x, 20, seed));
                others[0] += odds != withWhoseItIs(x, 19, seed) ? 1 : 0;
                others[1] += odds != withWhoseItIs(x, 21, seed) ? 1 : 0;
            }
        }
        c.due("19 days are not the same", others[0] > 0, true);
        c.due("21 days are not the same", others[1] > 0, true);
    }

    private static int withWhoseItIs(RingKeepers x, int days, int seed) {
        x.drawn(days, seed);
        int is = x.ring(0, 2) == x.ring(0, 1) ? 1 : 0;
        x.undo();
        return is;
    }

    @Says("is with whose it is")
    static void p33_keptOrWorn(Checks c) {
        RingKeepers x = Checks.on("person a 1 1 5;ring p 5 a a 3;");
        c.due("nobody else can have it", x.odds(0, 30, 1), 30);
        x.wear(0, 0);
        c.due("worn or kept", x.odds(0, 30, 1), 30);
        Checks.isle(x, "person a 1 1 5;ring p 20 a a 3;ring q 20 a a 3;jingle 2;");
        c.due("the greater is lost", x.odds(1, 30, 1), 0);
        c.due("the lesser is not", x.odds(0, 30, 1), 30);
        Checks.isle(x, "person a 1 1 5;person b 20 20 5;ring p 20 a b 3;walk 1;");
        c.due("too far", x.odds(0, 1, 1), 0);
    }

    @Says("from now on; NONE: no such ones.")
    static void p33_noSuchRing(Checks c) {
        RingKeepers x = Checks.on("person a 1 1 5;person b 1 1 5;person d 1 1 5;ring p 5 a a 3;ring q 5 a a 3;");
        for (int r : NOT_OF_TWO) {
            c.due("odds of ring " + r, x.odds(r, 1, 1), -1);
        }
    }

    // 34

    @Says({"The tape is a BOOK:", "it is judged, all staying as it is (lives 0),"})
    static void p34_judgedAllStays(Checks c) {
        RingKeepers x = Checks.on(TWO);
        Checks.sentence(x, "has r");
        String so = Checks.so(x);
        c.due("judged", Checks.book(x, 0, "b hands r a;day 1;b finds s;b wears s;b goes 3 5;day 3;"), -1);
        c.due("all stays", Checks.so(x), so);
        c.due("nothing to undo", x.undo(), -1);
        c.due("the tape is empty", x.count(5), 0);
    }

    @Says("or lived as far as it is not WRONG (1):")
    static void p34_livedAsFarAsItIsNotWrong(Checks c) {
        RingKeepers x = Checks.on(TWO);
        RingKeepers y = Checks.on(TWO);
        c.due("lived", Checks.book(x, 1, "b hands r a;day 1;b finds s;b goes 3 4;day 3;"), 3);
        y.hand(1, 0, 0);
        y.days(1);
        y.find(1, 1);
        c.due("as by three calls", Checks.so(x), Checks.so(y));
        c.due("the rest", Checks.book(x, 1, "b wears s;day 3;b doffs;a goes 4 4;"), -1);
        y.wear(1, 1);
        y.days(3);
        y.doff(1);
        y.go(0, 4, 4);
        c.due("as by seven calls", Checks.so(x), Checks.so(y));
    }

    @Says("or lived as far as it is not WRONG (1):")
    static void p34_lostOnesOfALivedBook(Checks c) {
        RingKeepers x = Checks.on(TWO);
        c.due("lost", Checks.book(x, 1, "b hands r a;a goes 5 5;day 1;"), -1);
        c.due("where", x.ring(1, 6) * 100 + x.ring(1, 7), 505);
        c.due("found in another", Checks.book(x, 1, "b goes 5 5;b finds s;"), -1);
        c.due("by whom", x.ring(1, 2), 1);
    }

    @Says("or lived as far as it is not WRONG (1):")
    static void p34_eachLineIsLivedAsItSays(Checks c) {
        RingKeepers x = Checks.on("person a 1 1 5;person b 1 1 5;person d 1 1 6;ring p 5 a a 9;ring q 6 b a 9;ring r 5 d b 9;walk 6;");
        c.due("handed to and fro", Checks.book(x, 1, "a hands p b;b hands r d;d goes 2 3;d goes 1 1;b hands p d;d wears p;"
            + "a hands q d;d hands r a;"), -1);
        c.due("kept by a", x.person(0, 4), 4);
        c.due("kept by b", x.person(1, 4), 0);
        c.due("kept by d", x.person(2, 4), 2);
        c.due("worn by d", x.person(2, 5), 0);
        c.due("handed", x.now(5), 5);
        c.due("gone", x.now(6), 6);
    }

    @Says({"the LINE that is WRONG;", "NONE: none;"})
    static void p34_theLineThatIsWrong(Checks c) {
        RingKeepers x = Checks.on(TWO);
        c.due("without lines", Checks.book(x, 1, ""), -1);
        c.due("the first", Checks.book(x, 0, "a doffs;"), 0);
        c.due("the second", Checks.book(x, 0, "day 1;a doffs;day 1;a doffs;"), 1);
        c.due("the 40th", Checks.book(x, 0, "day 1;".repeat(39) + "a doffs;"), 39);
        c.due("none of 40", Checks.book(x, 0, "day 1;".repeat(40)), -1);
    }

    @Says("-2 less the place of a FAULT;")
    static void p34_placeOfAFault(Checks c) {
        RingKeepers x = Checks.on(TWO);
        String so = Checks.so(x);
        c.due("at 0", Checks.book(x, 1, "?"), -2);
        c.due("the tape is empty", x.count(5), 0);
        c.due("at 10", Checks.book(x, 1, "day 1;day 0;"), -12);
        c.due("at 400", Checks.book(x, 1, "day 1;" + " ".repeat(400)), -402);
        c.due("nothing is lived", Checks.so(x), so);
        c.due("a fault behind a wrong line counts", Checks.book(x, 1, "a doffs;day 0;"), -2 - 12);
    }

    @Says("-1000: another lives (the tape stays).")
    static void p34_anotherLives(Checks c) {
        RingKeepers x = Checks.on(TWO);
        Checks.tape(x, "day 1;");
        for (int lives : new int[] {-1, 2, Integer.MIN_VALUE, Integer.MAX_VALUE}) {
            c.due("lives " + lives, x.book(lives), -1000);
            c.due("the tape stays", x.count(5), 6);
        }
        c.due("nothing is lived", x.now(0), 0);
        c.due("nothing is told", x.told(0), -1);
        c.due("it can be lived yet", x.book(1), -1);
        c.due("lived", x.now(0), 1);
    }

    // 35

    private static void wrong(Checks c, String island, String text, int line, int why) {
        RingKeepers x = Checks.on(island);
        c.due("book " + text, Checks.book(x, 0, text), line);
        c.due("why " + text, x.told(0), why);
        c.due("lines " + text, x.told(1), Math.max(line, 0));
    }

    @Says({"0 why it was WRONG (0: it was not;", "1, 2 as for going,"})
    static void p35_whyGoing(Checks c) {
        wrong(c, TWO, "", -1, 0);
        wrong(c, TWO, "a goes 3 4;", 0, 1);
        wrong(c, TWO, "a goes 3 9;a goes 3 9;", 1, 1);
        wrong(c, TWO, "a goes 3 10;", 0, 2);
        wrong(c, TWO, "a goes 3 9;a goes 3 8;", 1, 2);
    }

    @Says("11 to 13 handing,")
    static void p35_whyHanding(Checks c) {
        wrong(c, TWO, "a hands r a;", 0, 11);
        wrong(c, TWO, "a hands r b;", 0, 12);
        wrong(c, TWO, "b wears r;b hands r a;", 1, 12);
        wrong(c, TWO, "b goes 3 5;b hands r a;", 1, 13);
    }

    @Says("21 to 23 wearing,")
    static void p35_whyWearing(Checks c) {
        wrong(c, TWO, "a wears r;", 0, 21);
        wrong(c, TWO, "b hands r a;a wears r;a wears s;", 2, 22);
        wrong(c, "person a 0 0 5;ring r 7 a a 0;", "a wears r;", 0, 23);
        wrong(c, "person a 0 0 5;ring r 3 a a 0;", "a wears r;", 0, 23);
    }

    @Says("31 doffing,")
    static void p35_whyDoffing(Checks c) {
        wrong(c, TWO, "a doffs;", 0, 31);
        wrong(c, TWO, "a wears s;a doffs;a doffs;", 2, 31);
    }

    @Says("41, 42 finding;")
    static void p35_whyFinding(Checks c) {
        wrong(c, TWO, "a finds r;", 0, 41);
        wrong(c, TWO, "b hands r a;day 1;a finds s;b finds s;", 3, 41);
        wrong(c, TWO, "b hands r a;day 1;a goes 3 5;a finds s;", 3, 42);
    }

    @Says("51: fewer DAYS are left),")
    static void p35_fewerDaysAreLeft(Checks c) {
        wrong(c, TWO, DAYS_399 + "day 2;", 7, 51);
        wrong(c, TWO, DAYS_399 + "day 1;day 1;", 8, 51);
        RingKeepers x = Checks.on(TWO);
        c.due("just so many", Checks.book(x, 0, DAYS_399 + "day 1;"), -1);
        c.due("none is wrong", x.told(0), 0);
        c.due("all are over", x.told(2), 400);
        c.due("lived", Checks.book(x, 1, DAYS_399 + "day 2;"), 7);
        c.due("nothing of the wrong line", x.now(0), 399);
        c.due("told", x.told(2), 399);
    }

    @Says("1 LINES that are not,")
    static void p35_linesThatAreNot(Checks c) {
        RingKeepers x = Checks.on(TWO);
        Checks.book(x, 0, "");
        c.due("no lines", x.told(1), 0);
        Checks.book(x, 0, "a doffs;day 1;");
        c.due("the first is wrong", x.told(1), 0);
        Checks.book(x, 0, "day 1;day 1;a doffs;day 1;");
        c.due("the third is wrong", x.told(1), 2);
        Checks.book(x, 1, "day 1;day 1;day 1;");
        c.due("all three", x.told(1), 3);
    }

    @Says("2 the DAY then, 3 RINGS that are LOST then, as bits.")
    static void p35_dayAndLostOnesThen(Checks c) {
        RingKeepers x = Checks.on("person a 0 0 5;ring p 5 a a 0;ring q 5 a a 0;ring r 5 a a 0;jingle 2;");
        Checks.book(x, 0, "");
        c.due("today", x.told(2), 0);
        c.due("none", x.told(3), 0);
        Checks.book(x, 0, "day 1;");
        c.due("tomorrow", x.told(2), 1);
        c.due("one", x.told(3), 4);
        Checks.book(x, 0, "day 2;a finds r;day 5;a goes 20 20;");
        c.due("behind the lines that are not wrong", x.told(2), 7);
        c.due("two", x.told(3), 6);
        c.due("now none is", x.now(2), 0);
        x.days(3);
        c.due("as it was then", x.told(2), 7);
    }

    @Says("Of the latest book() that had no FAULT (and was not -1000):")
    static void p35_ofTheLatestWithoutAFault(Checks c) {
        RingKeepers x = Checks.on(TWO);
        Checks.book(x, 0, "day 1;day 1;a doffs;");
        String told = x.told(0) + " " + x.told(1) + " " + x.told(2) + " " + x.told(3);
        c.due("told", told, "31 2 2 0");
        Checks.book(x, 1, "day 1;day 0;");
        c.due("a fault leaves it", x.told(0) + " " + x.told(1) + " " + x.told(2) + " " + x.told(3), told);
        Checks.book(x, 2, "day 1;");
        c.due("-1000 leaves it", x.told(0) + " " + x.told(1) + " " + x.told(2) + " " + x.told(3), told);
        x.book(0);
        c.due("the latest", x.told(0) + " " + x.told(1) + " " + x.told(2) + " " + x.told(3), "0 1 1 0");
    }

    @Says("NONE: another what, or ahead of any.")
    static void p35_anotherWhatOrAheadOfAny(Checks c) {
        RingKeepers x = Checks.on(TWO);
        for (int what = 0; what < 4; what++) {
            c.due("ahead of any", x.told(what), -1);
        }
        Checks.book(x, 0, "?");
        c.due("behind a fault", x.told(0), -1);
        Checks.book(x, 0, "");
        for (int what : new int[] {-1, 4, Integer.MIN_VALUE, Integer.MAX_VALUE}) {
            c.due("told " + what, x.told(what), -1);
        }
    }

    // 36, 37

    private static int said(Checks c, RingKeepers x, String text) {
        c.due("sentence " + text, Checks.sentence(x, text) > 0, true);
        int bits = 0;
        int many = x.said(-1);
        for (int k = 0; k < many; k++) {
            bits |= 1 << x.said(k);
        }
        c.due("all are others: " + text, Integer.bitCount(bits), many);
        return bits;
    }

    @Says("The tape is the SENTENCE now: how many ONES (each not, bracket and other one);")
    static void p36_howManyOnes(Checks c) {
        RingKeepers x = Checks.on(TWO);
        c.due("one", Checks.sentence(x, "bare"), 1);
        c.due("the tape is empty", x.count(5), 0);
        c.due("not", Checks.sentence(x, "not bare"), 2);
        c.due("bracket", Checks.sentence(x, "(bare)"), 2);
        c.due("all", Checks.sentence(x, "not (bare or not keeps < 1) and by a"), 6);
    }

    @Says("-1 less the place of a FAULT: it stays.")
    static void p36_faultLeavesIt(Checks c) {
        RingKeepers x = Checks.on(TWO);
        c.due("at 0, and none is there", Checks.sentence(x, ""), -1);
        c.due("none", x.said(-1), -1);
        said(c, x, "has r");
        c.due("at 5", Checks.sentence(x, "bare ?"), -6);
        c.due("the tape is empty", x.count(5), 0);
        c.due("it stays", x.said(0), 1);
        c.due("a fault behind many", Checks.sentence(x, "bare and by a or has q"), -1 - 21);
        c.due("it stays", x.said(-1), 1);
    }

    @Says("'ringed' (he wears one)")
    static void p37_ringed(Checks c) {
        RingKeepers x = Checks.on(TWO);
        c.due("nobody", said(c, x, "ringed"), 0);
        x.wear(1, 0);
        c.due("b", said(c, x, "ringed"), 2);
        c.due("a", said(c, x, "not ringed"), 1);
    }

    @Says("'happy' (every RING of his that was due was HAD, and one was, at least)")
    static void p37_happy(Checks c) {
        RingKeepers x = Checks.on("person a 0 0 5;person b 0 0 5;person d 0 0 5;person e 0 0 5;ring p 5 a a 0;ring q 5 a a 1;"
            + "ring r 5 b b 0;ring s 5 b a 0;ring t 5 d d 9;");
        c.due("none was due", said(c, x, "happy"), 0);
        x.days(1);
        c.due("a, though one is not yet due; b missed one", said(c, x, "happy"), 1);
        x.hand(0, 1, 1);
        x.days(1);
        c.due("a missed one", said(c, x, "happy"), 0);
        x.days(8);
        c.due("d", said(c, x, "happy"), 4);
    }

    @Says("'bare' (no RING is his)")
    static void p37_bare(Checks c) {
        RingKeepers x = Checks.on("person a 0 0 5;person b 0 0 5;person d 0 0 5;ring p 5 a b 0;ring q 5 d b 0;jingle 2;");
        c.due("b, though he keeps some", said(c, x, "bare"), 2);
        x.days(1);
        c.due("d has a lost one", said(c, x, "bare"), 2);
    }

    @Says("'has' RING (he keeps or wears it)")
    static void p37_has(Checks c) {
        RingKeepers x = Checks.on(TWO);
        c.due("keeps", said(c, x, "has s"), 1);
        x.wear(0, 1);
        c.due("wears", said(c, x, "has s"), 1);
        x.doff(0);
        x.hand(1, 0, 0);
        x.days(1);
        c.due("lost", said(c, x, "has s"), 0);
        c.due("keeps", said(c, x, "has r"), 1);
    }

    @Says("'by' PERSON (he is in the same place; of himself, too)")
    static void p37_by(Checks c) {
        RingKeepers x = Checks.on("person a 1 1 5;person b 1 1 5;person d 1 2 5;person e 2 1 5;");
        c.due("by a", said(c, x, "by a"), 3);
        c.due("by himself alone", said(c, x, "by d"), 4);
        x.go(0, 2, 1);
        c.due("by e then", said(c, x, "by e"), 9);
    }

    @Says("(RINGS that he keeps, without one that he wears; steps that are left today; his number)")
    static void p37_measures(Checks c) {
        RingKeepers x = Checks.on("person a 1 1 4;person b 1 1 5;person d 1 2 6;ring p 5 a a 9;ring q 5 a a 9;ring r 5 a b 9;walk 3;");
        c.due("keeps two", said(c, x, "keeps = 2"), 1);
        x.wear(0, 0);
        c.due("without the one that he wears", said(c, x, "keeps = 1"), 3);
        c.due("none", said(c, x, "keeps = 0"), 4);
        x.go(1, 1, 3);
        c.due("steps left", said(c, x, "steps = 1"), 2);
        x.days(1);
        c.due("steps of the next day", said(c, x, "steps = 3"), 7);
        c.due("finger", said(c, x, "finger = 5"), 2);
        c.due("number", said(c, x, "number = 0"), 1);
        c.due("number", said(c, x, "number = 2"), 4);
    }

    @Says("SIGN: < = >.")
    static void p37_lessLikeMore(Checks c) {
        RingKeepers x = Checks.on("person a 1 1 4;person b 1 1 5;person d 1 2 6;");
        c.due("less", said(c, x, "finger < 5"), 1);
        c.due("like", said(c, x, "finger = 5"), 2);
        c.due("more", said(c, x, "finger > 5"), 4);
        c.due("less than 0", said(c, x, "number < 0"), 0);
        c.due("more than 0", said(c, x, "number > 0"), 6);
        c.due("less than 999", said(c, x, "number < 999"), 7);
        c.due("more than 999", said(c, x, "finger > 999"), 0);
    }

    @Says("ALL { 'or' ALL }. ALL: ONE { 'and' ONE }. ONE: 'not' ONE | ( COND )")
    static void p37_orAndNotBrackets(Checks c) {
        RingKeepers x = Checks.on("person a 1 1 5;person b 1 1 5;person d 1 1 5;person e 1 1 5;");
        c.due("or", said(c, x, "number = 0 or number = 3"), 9);
        c.due("and", said(c, x, "number > 0 and number < 3"), 6);
        c.due("and ahead of or", said(c, x, "number = 0 or number = 1 and number = 2"), 1);
        c.due("and ahead of or", said(c, x, "number = 1 and number = 2 or number = 0"), 1);
        c.due("bracket", said(c, x, "(number = 0 or number = 1) and number < 1"), 1);
        c.due("bracket behind", said(c, x, "number < 1 and (number = 1 or number = 0)"), 1);
        c.due("not of one", said(c, x, "not number = 0 and number < 2"), 2);
        c.due("not of a bracket", said(c, x, "not (number = 0 or number = 2)"), 10);
        c.due("not not", said(c, x, "not not number = 2"), 4);
        c.due("many", said(c, x, "number=0 and number=1 or number=2 and number>1 or number=3 and not number=3"), 4);
        c.due("deep", said(c, x, "not(not(not(number<2 or(number=3))))"), 4);
        c.due("and of a bracket", said(c, x, "number=2 and (number=2 and number=2)"), 4);
        c.due("or of a bracket", said(c, x, "number=2 or (number=1 or number=0)"), 7);
        c.due("and of or", said(c, x, "number=2 and (number=1 or number=2)"), 4);
        c.due("twenty, or at the end", said(c, x, "bare" + " and bare".repeat(17) + " and number=0 or number=3"), 9);
        c.due("twenty, and at the end", said(c, x, "bare" + " and bare".repeat(18) + " and number=2"), 4);
        c.due("twenty, the first", said(c, x, "number=2" + " and bare".repeat(19)), 4);
    }

    @Says({"PERSONS of whom it may be said: how many (k NONE), or the k-th.", "It is said of PERSONS."})
    static void p37_howManyOrTheKth(Checks c) {
        RingKeepers x = Checks.on("person a 1 1 4;person b 1 1 5;person d 1 2 6;person e 1 1 5;");
        Checks.sentence(x, "finger = 5");
        c.due("how many", x.said(-1), 2);
        c.due("first", x.said(0), 1);
        c.due("second", x.said(1), 3);
        Checks.sentence(x, "finger = 9");
        c.due("none", x.said(-1), 0);
        Checks.sentence(x, "steps = 5");
        x.go(1, 2, 1);
        c.due("as it is now", x.said(-1), 3);
        x.undo();
        c.due("as it is again", x.said(-1), 4);
        Checks.isle(x, "");
        Checks.sentence(x, "bare");
        c.due("of nobody", x.said(-1), 0);
        c.due("nobody", x.said(0), -1);
    }

    @Says("NONE: there is no SENTENCE, none such.")
    static void p37_noSentenceOrNoneSuch(Checks c) {
        RingKeepers x = Checks.on(TWO);
        c.due("no sentence", x.said(-1), -1);
        c.due("no sentence", x.said(0), -1);
        Checks.sentence(x, "not bare");
        for (int k : new int[] {-2, 2, 7, Integer.MIN_VALUE, Integer.MAX_VALUE}) {
            c.due("said " + k, x.said(k), -1);
        }
        Checks.isle(x, TWO);
        c.due("none on a new island", x.said(-1), -1);
        c.due("none on a new island", x.said(0), -1);
    }

    // 38, 39

    @Says("ISLAND, all that is so and the SENTENCE are kept in place k (0, 1): true;")
    static void p38_allIsKept(Checks c) {
        RingKeepers x = Checks.on(THREE);
        Checks.sentence(x, "number = 1");
        x.wear(1, 1);
        x.go(1, 4, 2);
        x.days(1);
        x.go(0, 1, 0);
        String three = Checks.so(x);
        c.due("image 0", x.image(0), true);
        c.due("nothing changed", Checks.so(x), three);
        c.due("can be undone", x.undo(), 3);
        Checks.isle(x, TWO);
        x.hand(1, 0, 0);
        x.days(1);
        String two = Checks.so(x);
        c.due("image 1", x.image(1), true);
        Checks.isle(x, "");
        c.due("restore 0", x.restore(0), true);
        c.due("the first", Checks.so(x), three);
        c.due("its names", Checks.noteOf(x, 1), "bob keeps 2 for ann cid wears tin");
        x.days(5);
        c.due("restore 1", x.restore(1), true);
        c.due("the second", Checks.so(x), two);
        c.due("its names", Checks.noteOf(x, 0), "a keeps 1 for a");
        c.due("restore 0 again", x.restore(0), true);
        c.due("the first again", Checks.so(x), three);
    }

    @Says("all that is so")
    static void p38_lostOnesAreKept(Checks c) {
        RingKeepers x = new RingKeepers();
        for (int k = 0; k < 2; k++) {
            Checks.isle(x, TWO.replace("3 4", k == 0 ? "6 7" : "8 9"));
            x.hand(1, 0, 0);
            x.days(1);
            x.image(k);
        }
        for (int k = 0; k < 2; k++) {
            x.restore(k);
            c.due("where it was lost", x.ring(1, 6) * 100 + x.ring(1, 7), k == 0 ? 607 : 809);
            c.due("found there", x.find(1, 1), 0);
        }
    }

    @Says("false: no such one.")
    static void p38_noSuchPlace(Checks c) {
        RingKeepers x = Checks.on(TWO);
        for (int k : NOT_OF_TWO) {
            c.due("image " + k, x.image(k), false);
        }
        c.due("nothing kept", x.restore(0), false);
        c.due("nothing kept", x.restore(1), false);
    }

    @Says("are kept in place k")
    static void p38_laterImageTakesThePlace(Checks c) {
        RingKeepers x = Checks.on(THREE);
        Checks.sentence(x, "bare");
        x.days(3);
        x.image(0);
        x.image(1);
        Checks.isle(x, TWO);
        x.image(0);
        x.days(1);
        x.restore(0);
        c.due("the later", x.count(0), 2);
        c.due("day", x.now(0), 0);
        c.due("no sentence was there", x.said(-1), -1);
        x.restore(1);
        c.due("the other stays", x.now(0), 3);
        x.image(0);
        x.days(1);
        x.restore(0);
        c.due("of a restored one", x.now(0), 3);
    }

    @Says("They are as kept in place k (the tape, and what other calls told last, stays;")
    static void p39_tapeAndWhatWasToldStay(Checks c) {
        RingKeepers x = Checks.on(TWO);
        x.image(0);
        Checks.isle(x, THREE);
        x.tour(1);
        x.keepers();
        x.note(1);
        Checks.sizes(x, 0, 1);
        Checks.book(x, 0, "day 1;bob doffs;");
        Checks.sentence(x, "?");
        Checks.tape(x, "day 2;");
        String last = Checks.last(x);
        c.due("restore", x.restore(0), true);
        c.due("what was told stays", Checks.last(x), last);
        c.due("the tape stays", x.count(5), 6);
        c.due("its bytes", x.book(1), -1);
        c.due("lived", x.now(0), 2);
    }

    @Says("nothing can be undone): true;")
    static void p39_nothingCanBeUndone(Checks c) {
        RingKeepers x = Checks.on(TWO);
        x.days(1);
        x.days(1);
        x.image(1);
        x.days(1);
        x.restore(1);
        c.due("undo", x.undo(), -1);
        c.due("day", x.now(0), 2);
        x.days(1);
        c.due("an act behind it can be", x.undo(), 0);
        x.days(1);
        c.due("a restore of nothing", x.restore(0), false);
        c.due("leaves what can be undone", x.undo(), 0);
    }

    @Says("false: no such one, or nothing is kept there.")
    static void p39_noSuchPlaceOrNothingThere(Checks c) {
        RingKeepers x = Checks.on(TWO);
        c.due("nothing in 0", x.restore(0), false);
        c.due("nothing in 1", x.restore(1), false);
        x.image(1);
        x.days(1);
        c.due("nothing in 0 yet", x.restore(0), false);
        for (int k : NOT_OF_TWO) {
            c.due("restore " + k, x.restore(k), false);
        }
        c.due("nothing changed", x.now(0), 1);
        c.due("1", x.restore(1), true);
        c.due("day", x.now(0), 0);
    }

    // 40

    @Says("0 PERSONS, 1 RINGS, 2 'fit', 3 'walk', 4 'jingle', 5 bytes of the tape.")
    static void p40_counts(Checks c) {
        RingKeepers x = Checks.on("person a 0 0 5;person b 0 0 5;ring r 5 a a 0;fit 3;walk 6;jingle 7;");
        Checks.tape(x, "abcdefgh");
        int[] want = {2, 1, 3, 6, 7, 8};
        for (int what = 0; what < 6; what++) {
            c.due("count " + what, x.count(what), want[what]);
        }
        x.days(9);
        c.due("as ever", x.count(1), 1);
        x.end(0);
        c.due("no bytes", x.count(5), 0);
    }

    @Says("NONE for another what.")
    static void p40_anotherWhat(Checks c) {
        RingKeepers x = Checks.on(TWO);
        for (int what : new int[] {-1, 6, Integer.MIN_VALUE, Integer.MAX_VALUE}) {
            c.due("count " + what, x.count(what), -1);
        }
    }
}
