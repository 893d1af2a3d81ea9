/** For each promise: ordinary inputs, the edges that the document names, wrong inputs. */
public final class PromiseTests {
    private static final String THREE = "person ann 0 0 5;person bob 4 0 8;person cid 10 10 6;"
        + "ring gold 6 ann bob 2;ring tin 8 bob bob 0;ring zinc 10 cid bob 9;fit 1;walk 3;jingle 3;";
    private static final String TWO = "person a 3 4 5;person b 3 4 6;ring r 5 a b 0;ring s 6 b a 5;jingle 2;";
    private static final Checks c = new Checks();

    public static void main(String[] args) {
        newObject();
        tape();
        islandLines();
        islandFaults();
        longTexts();
        personAndRing();
        fits();
        acts();
        dayGoes();
        undo();
        reachAndInTime();
        tour();
        tourOneBehindTheOther();
        keepers();
        sizes();
        ways();
        chain();
        note();
        drawn();
        bookJudged();
        bookFaults();
        sentenceFaults();
        sentenceSaid();
        images();
        counts();
        c.close("PromiseTests");
    }

    private static void newObject() { // 1
        RingKeepers x = new RingKeepers();
        c.due("NONE", RingKeepers.NONE, -1);
        for (int what = 0; what < 6; what++) {
            c.due("new count " + what, x.count(what), new int[] {0, 0, 1, 5, 4, 0}[what]);
        }
        c.due("new fault", x.fault(), 0);
        c.due("new undo", x.undo(), -1);
        c.due("new said", x.said(-1), -1);
        c.due("new told", x.told(0), -1);
        c.due("new keepers", x.keepers(), 0);
        c.due("new ways", x.ways(), 1);
        c.due("new inTime", x.inTime(), 0);
        c.due("empty island", x.island(), 0);
    }

    private static void tape() { // 2, 3
        RingKeepers x = new RingKeepers();
        for (int i = 1; i <= 47; i++) {
            c.due("feed " + i, x.feed(0, 0, 0, 0, 0), 20 * i);
        }
        c.due("feed beyond 940", x.feed(1, 2, 3, 4, 5), -1);
        c.due("bytes after that", x.count(5), 940);
        c.due("end(941)", x.end(941), false);
        c.due("end(-1)", x.end(-1), false);
        c.due("bytes stay", x.count(5), 940);
        c.due("end(921)", x.end(921), true);
        c.due("feed to 941", x.feed(0, 0, 0, 0, 0), -1);
        c.due("end(920)", x.end(920), true);
        c.due("feed to 940", x.feed(0, 0, 0, 0, 0), 940);
        c.due("end(0)", x.end(0), true);
        c.due("end(0) again", x.end(0), true);
        c.due("end(1)", x.end(1), false);
        // 'fit 3;' by the highest byte first
        x.feed('f' << 24 | 'i' << 16 | 't' << 8 | ' ', '3' << 24 | ';' << 16, 0, 0, 0);
        x.end(6);
        c.due("island by bytes", x.island(), 1);
        c.due("fit by bytes", x.count(2), 3);
    }

    private static void islandLines() { // 4
        RingKeepers x = new RingKeepers();
        c.due("island", Checks.isle(x, THREE), 9);
        c.due("tape empty then", x.count(5), 0);
        c.due("blanks and none", Checks.isle(x, "\n person a 20 020 1 ;ring r 20 a a 300;fit 0;walk 20;jingle 9; \n"), 5);
        c.due("x", x.person(0, 0), 20);
        c.due("walk", x.person(0, 3), 20);
        c.due("due", x.ring(0, 3), 300);
        c.due("blanks alone", Checks.isle(x, " \n "), 0);
        c.due("no persons", x.count(0), 0);
        c.due("without them fit is 1", x.count(2), 1);
        c.due("a full island", Checks.isle(x, persons(7) + rings(7) + "fit 5;walk 1;jingle 2;"), 17);
        c.due("seven", x.count(0) * 10 + x.count(1), 77);
        x.image(0);
        x.days(3);
        Checks.sentence(x, "bare");
        c.due("fault", Checks.isle(x, "fit 9;"), -5);
        c.due("it stays", x.count(0), 7);
        c.due("the day stays", x.now(0), 3);
        c.due("the sentence stays", x.said(-1), 6);
        c.due("undone after a fault", x.undo(), 0);
        x.days(3);
        Checks.isle(x, THREE);
        c.due("new: day", x.now(0), 0);
        c.due("new: no sentence", x.said(-1), -1);
        c.due("new: nothing to undo", x.undo(), -1);
    }

    private static String persons(int n) {
        StringBuilder text = new StringBuilder();
        for (int i = 0; i < n; i++) {
            text.append("person ").append((char) ('a' + i)).append(" 0 0 5;");
        }
        return text.toString();
    }

    private static String rings(int n) {
        StringBuilder text = new StringBuilder();
        for (int i = 0; i < n; i++) {
            text.append("ring ").append((char) ('k' + i)).append(" 5 a a 9;");
        }
        return text.toString();
    }

    private static void faulty(String text, int place, int kind) {
        RingKeepers x = new RingKeepers();
        c.due("island of " + text, Checks.isle(x, text), -1 - place);
        c.due("fault of " + text, x.fault(), kind);
        c.due("tape after " + text, x.count(5), 0);
    }

    private static void islandFaults() { // 4, 5
        faulty("fit 1", 5, 1);
        faulty("fit 1  \n", 8, 1);
        faulty("fit 1;;", 6, 1);
        faulty("fit;", 3, 1);
        faulty("fit x;", 4, 1);
        faulty("fit 6;", 4, 2);
        faulty("fit 0006;", 4, 1);
        faulty("fit 1a;", 4, 1);
        faulty("fit\t1;", 3, 1);
        faulty("fit 1.", 5, 1);
        faulty("fit 1;fit 9;", 6, 3);
        faulty("walk 0;", 5, 2);
        faulty("walk 21;", 5, 2);
        faulty("walk 1;walk", 7, 3);
        faulty("jingle 1;", 7, 2);
        faulty("jingle 10;", 7, 2);
        faulty("jingle 2;jingle 2;", 9, 3);
        faulty("persona 0 0 5;", 0, 1);
        faulty("person", 6, 1);
        faulty("person abcdefgh 0 0 5;", 7, 1);
        faulty("person a1 0 0 5;", 7, 1);
        faulty("person a 0 0;", 12, 1);
        faulty("person a 0 0 0;", 13, 2);
        faulty("person a 0 0 21;", 13, 2);
        faulty("person a 0 0 5 5;", 15, 1);
        faulty("person A 0 0 5;", 7, 1);
        faulty("person " + (char) 233 + " 0 0 5;", 7, 1);
        faulty("person a 0 0 5;person a 0 0 5;", 22, 3);
        faulty("person a 0 0 5;ring a 1 a a 1;", 20, 3);
        faulty("person a 0 0 5;ring r 1 a a 1;person r 0 0 5;", 37, 3);
        faulty("person a 0 0 5;ring r 1 a a 1;ring s 1 r a 1;", 39, 3);
        faulty("ring r 1 a a 1;person a 0 0 5;", 9, 3);
        faulty("person a 0 0 5;ring r 1 a b 1;", 26, 3);
        faulty("person a 0 0 5;ring r 1 a 1 1;", 26, 1);
        faulty("person a 0 0 5;ring r 1 a ring 1;", 26, 1);
        faulty("person a 0 0 5;ring r 0 a a 1;", 22, 2);
        faulty("person a 0 0 5;ring r 21 a a 1;", 22, 2);
        faulty("person a 0 0 5;ring r 1 a a 301;", 28, 2);
        faulty(persons(8), 105, 4);
        faulty(persons(7) + "person", 105, 4);
        faulty(persons(7) + rings(7) + "ring", 210, 4);
        faulty("(", 0, 1);
        String words = "person ring fit walk jingle goes hands wears doffs finds day or and not ringed happy bare"
            + " has by keeps steps finger number";
        for (String word : words.split(" ")) {
            faulty("person " + word + " 0 0 5;", 7, 1);
        }
        RingKeepers x = Checks.on("fit 9;");
        c.due("a kind", x.fault(), 2);
        c.due("other calls", x.book(2), -1000);
        c.due("leave it", x.fault(), 2);
        Checks.isle(x, "fit 1;");
        c.due("none without", x.fault(), 0);
    }

    private static String blanks(int n) {
        return " ".repeat(n);
    }

    private static void longTexts() { // 4, 34, 36: the most bytes
        c.due("900 bytes", Checks.isle(new RingKeepers(), blanks(894) + "fit 3;"), 1);
        faulty(blanks(895) + "fit 3;", 900, 1);
        faulty("fit 3;" + blanks(895), 900, 1);
        faulty(blanks(901), 900, 1);
        faulty(blanks(900) + "?", 900, 1);
        faulty(blanks(899) + "fit", 900, 1);
        faulty(blanks(899) + "fits", 899, 1);
        faulty(blanks(895) + "fit 3333;", 899, 1);
        faulty(blanks(895) + "fit 999;", 899, 2);
        faulty("fit 9;" + blanks(900), 4, 2);
        RingKeepers x = Checks.on(TWO);
        c.due("book 400", Checks.book(x, 0, blanks(391) + "day 1   ;"), -1);
        c.due("book 401", Checks.book(x, 0, blanks(391) + "day 1    ;"), -2 - 400);
        c.due("book fault", x.fault(), 1);
        c.due("sentence 200", Checks.sentence(x, blanks(196) + "bare"), 1);
        c.due("sentence 201", Checks.sentence(x, blanks(197) + "bare"), -1 - 200);
        c.due("sentence whole", Checks.sentence(x, blanks(198) + "barefoo"), -1 - 198);
    }

    private static void personAndRing() { // 6, 7
        RingKeepers x = Checks.on(THREE);
        int[][] persons = {{0, 0, 5, 3, 0, -1, 1}, {4, 0, 8, 3, 7, -1, 2}, {10, 10, 6, 3, 0, -1, 4}};
        int[][] rings = {{6, 0, 1, 2, 0, 0, 4, 0}, {8, 1, 1, 0, 0, 0, 4, 0}, {10, 2, 1, 9, 0, 0, 4, 0}};
        for (int i = 0; i < 3; i++) {
            for (int what = 0; what < 7; what++) {
                c.due("person " + i + " " + what, x.person(i, what), persons[i][what]);
            }
            for (int what = 0; what < 8; what++) {
                c.due("ring " + i + " " + what, x.ring(i, what), rings[i][what]);
            }
        }
        for (int bad : new int[] {-1, 3, 7, Integer.MIN_VALUE, Integer.MAX_VALUE}) {
            c.throwsAtPerson(x, bad, 0);
            c.throwsAtRing(x, bad, 0);
        }
        for (int bad : new int[] {-1, 7, Integer.MIN_VALUE, Integer.MAX_VALUE}) {
            c.throwsAtPerson(x, 0, bad);
        }
        for (int bad : new int[] {-1, 8, Integer.MIN_VALUE, Integer.MAX_VALUE}) {
            c.throwsAtRing(x, 0, bad);
        }
        x.wear(1, 1);
        c.due("kept without worn", x.person(1, 4), 5);
        c.due("worn", x.person(1, 5), 1);
        c.due("how", x.ring(1, 4), 1);
        c.due("by whom", x.ring(1, 2), 1);
        x.go(1, 4, 3);
        c.due("a ring goes along", x.ring(1, 7), 3);
    }

    private static void fits() { // 8
        RingKeepers x = Checks.on("person a 0 0 5;ring p 2 a a 0;ring q 3 a a 0;ring r 7 a a 0;ring s 8 a a 0;fit 2;");
        c.due("tight", x.fits(0, 0), 0);
        c.due("just fits", x.fits(1, 0), 1);
        c.due("fits just", x.fits(2, 0), 1);
        c.due("loose", x.fits(3, 0), 2);
        c.due("no such ring", x.fits(4, 0), -1);
        c.due("no such person", x.fits(0, 1), -1);
        c.due("below", x.fits(-1, 0), -1);
        c.due("below", x.fits(0, -1), -1);
    }

    private static void acts() { // 9 to 14
        RingKeepers x = Checks.on(THREE);
        c.due("go: no such one", x.go(3, 0, 0), -1);
        c.due("go: x", x.go(0, 21, 0), -1);
        c.due("go: y", x.go(0, 0, -1), -1);
        c.due("go: there", x.go(0, 0, 0), 1);
        c.due("go: farther", x.go(0, 2, 2), 2);
        c.due("go", x.go(0, 2, 1), 0);
        c.due("no steps", x.person(0, 3), 0);
        c.due("gone", x.now(6), 3);
        c.due("go: none left", x.go(0, 2, 2), 2);
        c.due("hand: no such", x.hand(1, 3, 0), -1);
        c.due("hand: no such", x.hand(1, 0, 3), -1);
        c.due("hand: no such", x.hand(-1, 0, 0), -1);
        c.due("hand: alike", x.hand(0, 0, 0), 1);
        c.due("hand: not kept", x.hand(0, 0, 1), 2);
        c.due("hand: not in one place", x.hand(1, 0, 0), 3);
        x.go(1, 2, 1);
        c.due("hand", x.hand(1, 0, 0), 0);
        c.due("handed", x.now(5), 1);
        c.due("kept then", x.person(0, 4), 1);
        c.due("wear: no such", x.wear(0, 3), -1);
        c.due("wear: no such", x.wear(3, 0), -1);
        c.due("wear: not kept", x.wear(0, 2), 1);
        c.due("wear: does not fit", x.wear(1, 2), 3);
        c.due("wear", x.wear(0, 0), 0);
        c.due("worn", x.now(1), 1);
        c.due("wear: kept no more", x.wear(0, 0), 1);
        c.due("hand: worn", x.hand(0, 0, 1), 2);
        c.due("wear too", x.wear(1, 1), 0);
        c.due("wear: wears one", x.wear(1, 2), 2);
        c.due("doff: no such", x.doff(3), -1);
        c.due("doff: none", x.doff(2), 1);
        c.due("doff", x.doff(0), 0);
        c.due("kept by him", x.person(0, 4), 1);
        c.due("find: no such", x.find(0, 3), -1);
        c.due("find: no such", x.find(-1, 0), -1);
        c.due("find: not lost", x.find(2, 0), 1);
        for (int what : new int[] {-1, 7, Integer.MAX_VALUE}) {
            c.due("now " + what, x.now(what), -1);
        }
        RingKeepers z = Checks.on("person a 19 19 5;");
        c.due("go to the farthest place", z.go(0, 20, 20), 0);
        c.due("go: x beyond it", z.go(0, 21, 20), -1);
        c.due("go: y beyond it", z.go(0, 20, 21), -1);
        c.due("go: x ahead of all", z.go(0, -1, 20), -1);
        Checks.isle(z, "person a 1 1 5;");
        c.due("go to the first place", z.go(0, 0, 0), 0);
        RingKeepers y = Checks.on(TWO);
        y.hand(1, 0, 0);
        y.days(1);
        c.due("lost", y.now(2), 2);
        y.go(0, 3, 5);
        c.due("find: not there", y.find(0, 1), 2);
        c.due("find", y.find(1, 1), 0);
        c.due("found", y.ring(1, 2), 1);
        c.due("none lost", y.now(2), 0);
    }

    private static void dayGoes() { // 9, 15
        RingKeepers x = Checks.on("person a 1 2 5;person b 3 4 5;ring p 5 a b 0;ring q 5 b b 0;ring r 5 b b 1;"
            + "ring s 5 a b 300;jingle 2;");
        c.due("none", x.days(0), -1);
        c.due("too many", x.days(61), -1);
        c.due("below", x.days(-1), -1);
        x.go(0, 1, 1);
        c.due("a day", x.days(1), 1);
        c.due("had", x.now(3), 2);
        c.due("missed", x.now(4), 1);
        c.due("lost one: the greatest", x.now(2), 8);
        c.due("lost x", x.ring(3, 6), 3);
        c.due("lost y", x.ring(3, 7), 4);
        c.due("lost by", x.ring(3, 2), -1);
        c.due("lost how", x.ring(3, 4), 2);
        c.due("steps anew", x.person(0, 3), 5);
        c.due("outcome", x.ring(0, 5) * 100 + x.ring(1, 5) * 10 + x.ring(2, 5), 210);
        c.due("a day", x.days(1), 1);
        c.due("had, then lost", x.now(3), 6);
        c.due("lost", x.now(2), 12);
        c.due("days", x.days(60), 60);
        c.due("one is left: worn ones do not count", x.now(2), 14);
        for (int i = 0; i < 5; i++) {
            x.days(60);
        }
        c.due("day", x.now(0), 362);
        c.due("missed at 300", x.now(4), 9);
        c.due("all that are left", x.days(60), 38);
        c.due("over", x.now(0), 400);
        c.due("none are left", x.days(1), 0);
        c.due("none drawn", x.drawn(1, 1), 0);
        c.due("only days above 0 are undone", x.undo(), 7);
        c.due("the day ahead", x.now(0), 362);
        RingKeepers y = Checks.on("person a 0 0 5;ring p 5 a a 0;ring q 5 a a 0;jingle 2;");
        y.wear(0, 0);
        y.days(1);
        c.due("a worn one is not kept", y.now(2), 0);
        c.due("had by wearing", y.now(3), 3);
    }

    private static void undo() { // 16
        RingKeepers x = Checks.on("person a 0 0 5;person b 0 0 5;ring r 5 a b 0;walk 20;");
        for (int i = 1; i <= 10; i++) {
            x.go(0, i, 0);
        }
        c.due("not done", x.go(0, 10, 0), 1);
        c.due("not done", x.doff(0), 1);
        for (int i = 7; i >= 0; i--) {
            c.due("undo", x.undo(), i);
            c.due("x again", x.person(0, 0), i + 2);
            c.due("gone again", x.now(6), i + 2);
            c.due("steps again", x.person(0, 3), 18 - i);
        }
        c.due("only eight", x.undo(), -1);
        x.go(0, 0, 0);
        x.hand(1, 0, 0);
        x.wear(0, 0);
        Checks.sentence(x, "ringed");
        c.due("undo wear", x.undo(), 2);
        c.due("nothing worn", x.now(1), 0);
        c.due("the sentence stays", x.said(-1), 0);
        c.due("undo hand", x.undo(), 1);
        c.due("handed again", x.now(5), 0);
        x.days(2);
        x.drawn(2, 7);
        c.due("undo drawn", x.undo(), 2);
        c.due("the day", x.now(0), 2);
        c.due("undo days", x.undo(), 1);
        c.due("outcome again", x.now(4), 0);
        Checks.book(x, 0, "b goes 1 1;");
        c.due("judged books are not undone", x.undo(), 0);
        Checks.book(x, 1, "b goes 1 1;b goes 2 2;b goes 2 2;");
        c.due("lived in part", x.person(1, 0), 2);
        c.due("undone whole", x.undo(), 0);
        c.due("back", x.person(1, 0), 0);
        Checks.book(x, 1, "b goes 0 0;b goes 2 2;");
        c.due("no line was lived", x.undo(), -1);
        Checks.book(x, 1, "");
        c.due("no line at all", x.undo(), -1);
    }

    private static void reachAndInTime() { // 17, 18
        RingKeepers x = Checks.on("person a 0 0 5;person b 6 0 5;person c 7 0 5;person d 20 20 5;ring p 5 a b 0;"
            + "ring q 5 a c 0;ring r 5 a d 5;ring s 5 a d 6;ring t 5 a a 0;walk 3;");
        int[] days = {0, 1, 6, 6, 0};
        for (int r = 0; r < 5; r++) {
            c.due("reach " + r, x.reach(r), days[r]);
        }
        c.due("in time", x.inTime(), 1 | 8 | 16);
        x.go(0, 3, 0);
        c.due("this day whole, though steps are gone", x.reach(1), 0);
        c.due("no such one", x.reach(5), -1);
        c.due("no such one", x.reach(-1), -1);
        x.undo();
        x.days(1);
        c.due("had or missed are not in time", x.inTime(), 0);
        RingKeepers y = Checks.on("person a 0 0 5;person b 7 0 5;ring p 5 a b 9;ring q 5 a b 2;walk 3;jingle 2;");
        c.due("both walk", y.reach(1), 1);
        y.days(1);
        c.due("to a lost one he alone", y.reach(1), 2);
        c.due("in time", y.inTime(), 1);
    }

    private static void tour() { // 19, 20
        RingKeepers x = Checks.on(THREE);
        c.due("ahead of any", x.tourAt(0), -1);
        c.due("tour", x.tour(1), 24);
        c.due("stop", x.tourAt(0), 0);
        c.due("stop", x.tourAt(1), 2);
        c.due("no more", x.tourAt(2), -1);
        c.due("no such", x.tour(3), -1);
        c.due("no such", x.tour(-1), -1);
        c.due("the latest that was not", x.tourAt(1), 2);
        c.due("below", x.tourAt(-1), -1);
        c.due("none to come to", x.tour(0), 0);
        c.due("nobody", x.tourAt(0), -1);
        RingKeepers y = Checks.on("person a 10 10 5;person b 9 10 5;person c 11 10 5;person d 10 9 5;person e 10 11 5;"
            + "ring p 5 e a 0;ring q 5 d a 0;ring r 5 c a 0;ring s 5 b a 0;ring t 5 c a 0;");
        c.due("a cross", y.tour(0), 7);
        c.due("twice his is once", y.tourAt(4), -1);
        c.due("the first of like ones", y.tourAt(0) * 1000 + y.tourAt(1) * 100 + y.tourAt(2) * 10 + y.tourAt(3), 1234);
    }

    private static void tourOneBehindTheOther() { // 19, 20
        RingKeepers x = Checks.on("person a 10 0 5;person b 0 0 5;person c 2 0 5;person d 20 0 5;person e 12 0 5;"
            + "ring p 5 b a 0;ring q 5 c a 0;ring r 5 d a 0;ring s 5 e a 0;ring t 5 a a 0;");
        c.due("one side, then the other", x.tour(0), 30);
        int[] way = {1, 2, 4, 3, -1}; // c on the way back from b: as far, and b is the first
        Checks.isle(x, "person a 9 0 5;person b 0 0 5;person c 2 0 5;person d 20 0 5;person e 12 0 5;"
            + "ring p 5 b a 0;ring q 5 c a 0;ring r 5 d a 0;ring s 5 e a 0;ring t 5 a a 0;");
        c.due("the nearer side first", x.tour(0), 29);
        for (int k = 0; k < way.length; k++) {
            c.due("stop " + k, x.tourAt(k), way[k]);
        }
        x.wear(0, 0);
        c.due("worn ones are not brought", x.tour(0), 25);
        c.due("stop", x.tourAt(0), 2);
        c.due("stop", x.tourAt(1), 4);
    }

    private static void keepers() { // 21, 22
        RingKeepers x = Checks.on(THREE);
        c.due("ahead of any", x.keeperOf(0), -1);
        c.due("sum", x.keepers(), 40);
        c.due("first", x.keeperOf(0) * 100 + x.keeperOf(1) * 10 + x.keeperOf(2), 120);
        c.due("no such", x.keeperOf(3), -1);
        c.due("no such", x.keeperOf(7), -1);
        c.due("no such", x.keeperOf(-1), -1);
        Checks.isle(x, "person a 0 0 5;ring r 5 a a 0;");
        c.due("nobody else", x.keepers(), -1);
        c.due("the latest that was not", x.keeperOf(0), 1);
        Checks.isle(x, "person a 0 0 5;person b 0 0 5;ring p 5 a a 0;ring q 5 a a 0;");
        c.due("one to each", x.keepers(), -1);
        Checks.isle(x, TWO);
        x.hand(1, 0, 0);
        x.days(1);
        c.due("a lost one has none", x.keepers(), 0);
        c.due("kept", x.keeperOf(0), 1);
        c.due("lost", x.keeperOf(1), -1);
        Checks.isle(x, "");
        c.due("no rings", x.keepers(), 0);
        c.due("none then", x.keeperOf(0), -1);
    }

    private static void sizes() { // 23 to 25
        RingKeepers x = Checks.on(THREE);
        c.due("ahead of any", x.sizeLeast(), -1);
        c.due("ahead of any", x.knuckle(), -1);
        c.due("empty", x.sizes(), -1);
        c.due("odd", Checks.sizes(x, 0, 1, 0), -1);
        c.due("tape is empty then", x.count(5), 0);
        c.due("no such person", Checks.sizes(x, 3, 1), -1);
        c.due("no such person", Checks.sizes(x, 255, 1), -1);
        c.due("no such feel", Checks.sizes(x, 0, 3), -1);
        c.due("no such feel", Checks.sizes(x, 0, 255), -1);
        c.due("nine", Checks.sizes(x, 0, 1, 0, 1, 0, 1, 0, 1, 0, 1, 0, 1, 0, 1, 0, 1, 0, 1), -1);
        c.due("eight", Checks.sizes(x, 0, 1, 0, 1, 0, 1, 0, 1, 0, 1, 0, 1, 0, 1, 0, 1), 3);
        c.due("least", x.sizeLeast(), 4);
        c.due("knuckle", x.knuckle(), 2);
        c.due("none is so", Checks.sizes(x, 0, 2, 1, 0, 0, 0), 0);
        c.due("least stays", x.sizeLeast(), 4);
        c.due("knuckle stays", x.knuckle(), 2);
        c.due("loose", Checks.sizes(x, 2, 2), 13);
        c.due("least", x.sizeLeast(), 8);
        c.due("knuckle", x.knuckle(), 1);
        c.due("tight", Checks.sizes(x, 0, 0), 3);
        c.due("least", x.sizeLeast(), 1);
        c.due("of like ones the first", x.knuckle(), 0);
        Checks.isle(x, "person a 0 0 20;fit 0;");
        c.due("nineteen", Checks.sizes(x, 0, 0), 19);
        c.due("though it tells nothing", x.knuckle(), 0);
        c.due("one", Checks.sizes(x, 0, 1), 1);
        c.due("the greatest", x.sizeLeast(), 20);
        c.due("least again", Checks.sizes(x, 0, 0) * 10 + x.sizeLeast(), 191);
        c.due("not as told", Checks.sizes(x), -1);
        c.due("stays", x.sizeLeast(), 1);
    }

    private static void ways() { // 26, 27
        RingKeepers x = Checks.on(TWO);
        c.due("ways", x.ways(), 2);
        c.due("first of like", x.likely(1), 0);
        c.due("no such", x.likely(2), -1);
        c.due("no such", x.likely(-1), -1);
        Checks.isle(x, persons(7) + rings(7));
        c.due("7!", x.ways(), 5040);
        c.due("likely", x.likely(6), 0);
        Checks.isle(x, persons(2) + rings(3));
        c.due("too few persons", x.ways(), 0);
        c.due("no ways", x.likely(0), -1);
        Checks.isle(x, persons(2));
        c.due("no rings", x.ways(), 1);
        Checks.isle(x, "person a 0 0 5;person b 0 0 7;person c 0 0 8;ring p 6 a a 0;ring q 7 a a 0;ring r 7 a a 0;jingle 2;");
        x.days(2);
        c.due("lost ones too", x.ways(), 2);
        c.due("only he can", x.likely(0), 0);
        c.due("of like ones the first", x.likely(1), 1);
    }

    private static void chain() { // 28, 29
        RingKeepers x = Checks.on("person a 0 0 5;person b 0 0 5;person c 0 0 5;person d 0 0 5;ring p 5 a b 0;"
            + "ring q 5 a a 0;ring r 5 b c 0;ring s 5 c b 0;walk 3;");
        c.due("chain", x.chain(0), 3);
        c.due("not he himself", x.closed(0), 0);
        c.due("chain", x.chain(1), 2);
        c.due("closed", x.closed(1), 1);
        c.due("no ring", x.chain(3), 1);
        c.due("not closed", x.closed(3), 0);
        c.due("no such", x.chain(4), -1);
        c.due("no such", x.closed(-1), -1);
        RingKeepers y = Checks.on("person a 0 0 5;person b 0 0 5;ring q 5 b b 0;ring p 5 a b 0;ring r 5 a a 0;jingle 2;");
        c.due("by the first", y.chain(0), 2);
        y.days(1);
        c.due("lost ones do not count", y.chain(0), 1);
        c.due("he himself", y.closed(0), 1);
        y.wear(1, 0);
        c.due("worn ones do", y.closed(1), 1);
    }

    private static void text(String what, String got, String want) {
        c.due(what + ": " + got, got.equals(want), true);
    }

    private static void note() { // 30, 31
        RingKeepers x = Checks.on(THREE);
        c.due("ahead of any", x.byteAt(0), -1);
        text("three", Checks.noteOf(x, 1), "bob keeps 3 for ann bob cid");
        c.due("no such", x.note(3), -1);
        c.due("the latest stays", x.byteAt(0), 'b');
        text("none", Checks.noteOf(x, 0), "ann keeps 0");
        c.due("behind it", x.byteAt(11), -1);
        c.due("ahead of it", x.byteAt(-1), -1);
        x.wear(1, 1);
        text("worn", Checks.noteOf(x, 1), "bob keeps 2 for ann cid wears tin");
        Checks.isle(x, "person zzzzzzz 0 0 5;ring aaaaaaa 5 zzzzzzz zzzzzzz 0;ring b 5 zzzzzzz zzzzzzz 0;");
        text("long names", Checks.noteOf(x, 0), "zzzzzzz keeps 2 for zzzzzzz zzzzzzz");
        x.wear(0, 0);
        text("long ring", Checks.noteOf(x, 0), "zzzzzzz keeps 1 for zzzzzzz wears aaaaaaa");
    }

    private static void drawn() { // 32, 33
        RingKeepers x = Checks.on(TWO);
        c.due("none", x.drawn(0, 1), -1);
        c.due("too many", x.drawn(61, 1), -1);
        c.due("no ring", x.odds(2, 1, 1), -1);
        c.due("no ring", x.odds(-1, 1, 1), -1);
        c.due("no seeds", x.odds(0, 0, 1), -1);
        c.due("too many seeds", x.odds(0, 31, 1), -1);
        int sum = 0;
        for (int seed = Integer.MAX_VALUE - 3; seed != Integer.MIN_VALUE + 4; seed++) {
            int one = x.odds(0, 1, seed);
            c.due("drawn", x.drawn(20, seed), 20);
            c.due("odds of one seed", one, x.ring(0, 2) == x.ring(0, 1) ? 1 : 0);
            x.undo();
            sum += one;
        }
        c.due("odds of eight seeds", x.odds(0, 8, Integer.MAX_VALUE - 3), sum);
        c.due("odds change nothing", x.now(0), 0);
        int thirty = 0;
        for (int seed = 0; seed < 30; seed++) {
            thirty += x.odds(0, 1, seed);
        }
        c.due("odds of thirty seeds", x.odds(0, 30, 0), thirty);
        // seed 0: 12345 >>> 8 is 48, of 6: 0, he goes; the next two draws are by hand
        RingKeepers y = Checks.on("person a 10 10 5;walk 20;");
        int s = 12345;
        s = s * 1103515245 + 12345;
        int toX = (s >>> 8) % 21;
        s = s * 1103515245 + 12345;
        int toY = (s >>> 8) % 21;
        y.drawn(1, 0);
        boolean can = Math.abs(toX - 10) + Math.abs(toY - 10) <= 20;
        c.due("drawn x", y.person(0, 0), can ? toX : 10);
        c.due("drawn y", y.person(0, 1), can ? toY : 10);
    }

    private static void bookJudged() { // 34, 35
        RingKeepers x = Checks.on(TWO);
        c.due("ahead of any", x.told(1), -1);
        c.due("another lives", Checks.book(x, 2, "day 1;"), -1000);
        c.due("the tape stays", x.count(5), 6);
        c.due("still ahead", x.told(1), -1);
        c.due("judged", x.book(0), -1);
        c.due("the tape is empty then", x.count(5), 0);
        c.due("all stays", x.now(0), 0);
        c.due("why", x.told(0), 0);
        c.due("lines", x.told(1), 1);
        c.due("day then", x.told(2), 1);
        c.due("another what", x.told(4), -1);
        c.due("another what", x.told(-1), -1);
        wrong(x, "a goes 3 4;", 0, 1);
        wrong(x, "a goes 3 5;a goes 9 9;a goes 3 4;", 1, 2);
        wrong(x, "a hands r a;", 0, 11);
        wrong(x, "a hands r b;", 0, 12);
        wrong(x, "b goes 3 5;b hands r a;", 1, 13);
        wrong(x, "a wears r;", 0, 21);
        wrong(x, "b hands r a;a wears s;a wears r;", 2, 22);
        wrong(x, "a doffs;", 0, 31);
        wrong(x, "a wears s;a doffs;a doffs;", 2, 31);
        wrong(x, "a finds r;", 0, 41);
        wrong(x, "b hands r a;day 1;a goes 3 5;a finds s;", 3, 42);
        c.due("lost then", x.told(3), 2);
        c.due("day then", x.told(2), 1);
        c.due("not now", x.now(2), 0);
        wrong(x, "day 60;day 60;day 60;day 60;day 60;day 60;day 40;day 1;", 7, 51);
        wrong(x, "day 60;day 60;day 60;day 60;day 60;day 60;day 41;", 6, 51);
        c.due("day then", x.told(2), 360);
        c.due("lived", Checks.book(x, 1, "b hands r a;day 1;b finds s;b wears s;day 2;b wears s;"), 5);
        c.due("so far", x.now(0), 3);
        c.due("worn", x.person(1, 5), 1);
        c.due("why", x.told(0), 21);
        c.due("lines that are not", x.told(1), 5);
        c.due("a fault", Checks.book(x, 1, "day 1;day 0;"), -2 - 10);
        c.due("lives nothing", x.now(0), 3);
        c.due("told stays", x.told(1), 5);
        RingKeepers y = Checks.on("person a 3 4 5;ring r 9 a a 0;");
        wrong(y, "a wears r;", 0, 23);
    }

    private static void wrong(RingKeepers x, String text, int line, int why) {
        c.due("book " + text, Checks.book(x, 0, text), line);
        c.due("why " + text, x.told(0), why);
        c.due("lines " + text, x.told(1), line);
        c.due("fault " + text, x.fault(), 0);
    }

    private static void badBook(String text, int place, int kind) {
        RingKeepers x = Checks.on(TWO);
        c.due("book of " + text, Checks.book(x, 1, text), -2 - place);
        c.due("its fault", x.fault(), kind);
    }

    private static void bookFaults() { // 34, 5
        badBook("day", 3, 1);
        badBook("day 0;", 4, 2);
        badBook("day 61;", 4, 2);
        badBook("day 1", 5, 1);
        badBook("a day 1;", 2, 1);
        badBook("a goes 21 0;", 7, 2);
        badBook("a goes 20 21;", 10, 2);
        badBook("a goes 20;", 9, 1);
        badBook("goes 1 1;", 0, 1);
        badBook("c goes 1 1;", 0, 3);
        badBook("r goes 1 1;", 0, 3);
        badBook("a b;", 2, 1);
        badBook("a wears;", 7, 1);
        badBook("a wears q;", 8, 3);
        badBook("a wears b;", 8, 3);
        badBook("a finds day;", 8, 1);
        badBook("a hands r;", 9, 1);
        badBook("a hands r s;", 10, 3);
        badBook("a doffs r;", 8, 1);
        String forty = "day 1;".repeat(40);
        badBook(forty + "day 0;", 240, 4);
        badBook(forty + "a", 240, 4);
        badBook(forty + "q", 240, 3);
        badBook(forty + "r", 240, 3);
        badBook(forty + ";", 240, 1);
        badBook(forty + "or", 240, 1);
        RingKeepers x = Checks.on(TWO);
        c.due("forty lines", Checks.book(x, 1, forty), -1);
        c.due("forty days", x.now(0), 40);
        c.due("forty told", x.told(1), 40);
    }

    private static void badSentence(String text, int place, int kind) {
        RingKeepers x = Checks.on(TWO);
        Checks.sentence(x, "has r");
        c.due("sentence of " + text, Checks.sentence(x, text), -1 - place);
        c.due("its fault", x.fault(), kind);
        c.due("it stays", x.said(0), 1);
    }

    private static void goodSentence(String text, int ones) {
        RingKeepers x = Checks.on(TWO);
        c.due("sentence of " + text, Checks.sentence(x, text), ones);
        c.due("no fault", x.fault(), 0);
    }

    private static void sentenceFaults() { // 36, 5
        badSentence("", 0, 1);
        badSentence("  ", 2, 1);
        badSentence("or", 0, 1);
        badSentence("bare or", 7, 1);
        badSentence("bare bare", 5, 1);
        badSentence("bare)", 4, 1);
        badSentence("(bare", 5, 1);
        badSentence("()", 1, 1);
        badSentence("not", 3, 1);
        badSentence("has", 3, 1);
        badSentence("has a", 4, 3);
        badSentence("has q", 4, 3);
        badSentence("has 1", 4, 1);
        badSentence("has day", 4, 1);
        badSentence("by r", 3, 3);
        badSentence("keeps 1", 6, 1);
        badSentence("keeps =", 7, 1);
        badSentence("keeps = a", 8, 1);
        badSentence("keeps == 1", 7, 1);
        badSentence("keeps = 1000", 8, 1);
        badSentence("a", 0, 1);
        badSentence("bare;", 4, 1);
        goodSentence("keeps=999", 1);
        goodSentence("not not not not not not not bare", 8);
        badSentence("not not not not not not not not bare", 32, 4);
        badSentence("not not not not not not not not or", 32, 1);
        goodSentence("(((((((bare)))))))", 8);
        badSentence("((((((((bare))))))))", 8, 4);
        badSentence("(((((((((bare", 8, 4);
        goodSentence("((not(not(not bare))))or bare", 9);
        goodSentence("bare" + " or bare".repeat(19), 20);
        badSentence("bare" + " or bare".repeat(20), 160, 4);
        badSentence("bare" + " or bare".repeat(19) + " or or", 160, 1);
        badSentence("bare" + " or bare".repeat(18) + " or not bare", 156, 4);
    }

    private static int who(RingKeepers x, String text) {
        Checks.sentence(x, text);
        int bits = 0;
        int many = x.said(-1);
        for (int k = 0; k < many; k++) {
            bits |= 1 << x.said(k);
        }
        c.due("none behind them: " + text, x.said(many), -1);
        return bits;
    }

    private static void sentenceSaid() { // 37
        RingKeepers x = Checks.on("person a 0 0 5;person b 0 0 6;person c 1 0 7;person d 2 0 8;ring p 5 a a 0;"
            + "ring q 6 b a 0;ring r 7 c c 0;ring s 7 c c 9;walk 3;");
        c.due("no sentence", x.said(-1), -1);
        c.due("no sentence", x.said(0), -1);
        c.due("before they are due", who(x, "happy"), 0);
        x.wear(0, 0);
        x.days(1);
        x.go(3, 1, 0);
        c.due("ringed", who(x, "ringed"), 1);
        c.due("happy", who(x, "happy"), 5);
        c.due("bare", who(x, "bare"), 8);
        c.due("has", who(x, "has q"), 1);
        c.due("has, worn", who(x, "has p"), 1);
        c.due("by", who(x, "by c"), 12);
        c.due("by himself", who(x, "by a"), 3);
        c.due("keeps", who(x, "keeps > 0"), 5);
        c.due("keeps without worn", who(x, "keeps = 1"), 1);
        c.due("steps", who(x, "steps < 3"), 8);
        c.due("finger", who(x, "finger > 6"), 12);
        c.due("number", who(x, "number = 002"), 4);
        c.due("and binds", who(x, "bare or happy and ringed"), 9);
        c.due("bracket", who(x, "(bare or happy) and ringed"), 1);
        c.due("not binds", who(x, "not bare and happy"), 5);
        c.due("not of a bracket", who(x, "not (bare and happy)"), 15);
        c.due("not not", who(x, "not not bare"), 8);
        c.due("or or", who(x, "number=0 or number=1 or number=3"), 11);
        c.due("k below NONE", x.said(-2), -1);
        c.due("far behind", x.said(Integer.MAX_VALUE), -1);
        Checks.isle(x, "");
        c.due("no sentence then", x.said(-1), -1);
        c.due("of nobody", who(x, "bare"), 0);
    }

    private static void images() { // 38, 39
        RingKeepers x = Checks.on(THREE);
        c.due("nothing kept", x.restore(0), false);
        c.due("no such", x.image(2), false);
        c.due("no such", x.image(-1), false);
        Checks.sentence(x, "number = 1");
        x.wear(1, 1);
        x.days(1);
        c.due("image", x.image(1), true);
        c.due("image leaves undo", x.undo(), 1);
        x.tour(1);
        Checks.isle(x, TWO);
        Checks.tape(x, "day 1;");
        c.due("nothing kept in 0", x.restore(0), false);
        c.due("no such", x.restore(2), false);
        x.days(5);
        c.due("restore", x.restore(1), true);
        c.due("persons", x.count(0), 3);
        c.due("day", x.now(0), 1);
        c.due("had", x.now(3), 2);
        c.due("worn", x.person(1, 5), 1);
        c.due("the sentence", x.said(0), 1);
        c.due("the tape stays", x.count(5), 6);
        c.due("what was told stays", x.tourAt(1), 2);
        c.due("nothing can be undone", x.undo(), -1);
        text("names", Checks.noteOf(x, 1), "bob keeps 2 for ann cid wears tin");
        c.due("the tape by those names", x.book(1), -1);
        c.due("again", x.restore(1), true);
        c.due("day again", x.now(0), 1);
        Checks.isle(x, TWO);
        x.image(1);
        Checks.sentence(x, "bare");
        x.restore(1);
        c.due("no sentence was kept", x.said(-1), -1);
        c.due("the later image", x.count(0), 2);
    }

    private static void counts() { // 40
        RingKeepers x = Checks.on(THREE + "");
        Checks.tape(x, "abc");
        int[] want = {3, 3, 1, 3, 3, 3};
        for (int what = 0; what < 6; what++) {
            c.due("count " + what, x.count(what), want[what]);
        }
        c.due("count 6", x.count(6), -1);
        c.due("count -1", x.count(-1), -1);
    }
}
