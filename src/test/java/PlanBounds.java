/** Bounds of promises 17 to 31: REACH, TOUR, KEEPERS, SIZES, WAYS, CHAIN, NOTE. */
final class PlanBounds {
    private static final String THREE = "person ann 0 0 5;person bob 4 0 8;person cid 10 10 6;"
        + "ring gold 6 ann bob 2;ring tin 8 bob bob 0;ring zinc 10 cid bob 9;fit 1;walk 3;jingle 3;";
    private static final String TWO = "person a 3 4 5;person b 3 4 6;ring r 5 a b 0;ring s 6 b a 5;jingle 2;";
    private static final int[] NOT_OF_TWO = {-1, 2, 7, Integer.MIN_VALUE, Integer.MAX_VALUE};
    private static final int[] NOT_OF_THREE = {-1, 3, 7, Integer.MIN_VALUE, Integer.MAX_VALUE};

    private PlanBounds() {
    }

    private static String tourOf(RingKeepers x) {
        StringBuilder text = new StringBuilder();
        for (int k = 0; x.tourAt(k) != -1 && k < 9; k++) {
            text.append(x.tourAt(k));
        }
        return text.toString();
    }

    private static String keepersOf(RingKeepers x, int rings) {
        StringBuilder text = new StringBuilder();
        for (int r = 0; r < rings; r++) {
            text.append(r == 0 ? "" : " ").append(x.keeperOf(r));
        }
        return text.toString();
    }

    // 17

    @Says({"REACH of a RING: the fewest DAYS that must go till it can be with whose it is,",
        "if he and who keeps (or wears) it go towards one another with 'walk' steps each DAY,", "REACH of a RING: how many DAYS;"})
    static void p17_towardsOneAnother(Checks c) {
        RingKeepers x = Checks.on("person a 0 0 5;person b 6 0 5;person d 0 7 5;person e 6 6 5;person f 12 1 5;person g 20 20 5;"
            + "ring p 5 a b 9;ring q 5 a d 9;ring r 5 a e 9;ring s 5 a f 9;ring t 5 a g 9;ring u 5 a a 9;walk 3;");
        int[] days = {0, 1, 1, 2, 6, 0};
        for (int r = 0; r < days.length; r++) {
            c.due("reach " + r, x.reach(r), days[r]);
        }
        x.wear(2, 1);
        c.due("worn by another", x.reach(1), 1);
        x.wear(0, 5);
        c.due("worn by himself", x.reach(5), 0);
        Checks.isle(x, "person a 0 0 5;person b 20 20 5;ring p 5 a b 0;walk 1;");
        c.due("the farthest", x.reach(0), 19);
        Checks.isle(x, "person a 0 0 5;person b 20 20 5;ring p 5 a b 0;walk 20;");
        c.due("the farthest in a day", x.reach(0), 0);
    }

    @Says("this one whole (0: they can meet today);")
    static void p17_thisDayWhole(Checks c) {
        RingKeepers x = Checks.on("person a 0 0 5;person b 7 0 5;ring p 5 a b 9;walk 3;");
        c.due("one too far", x.reach(0), 1);
        x.go(0, 1, 0);
        x.go(0, 1, 2);
        x.go(1, 6, 1);
        c.due("six, though steps are gone", x.reach(0), 0);
        Checks.isle(x, "person a 0 0 5;person b 0 0 5;ring p 5 a b 9;walk 1;");
        c.due("in one place", x.reach(0), 0);
        x.go(0, 1, 0);
        x.go(1, 0, 1);
        c.due("two steps of one each", x.reach(0), 0);
    }

    @Says("a LOST one: till he can be where it is.")
    static void p17_lostOneHeAloneGoes(Checks c) {
        RingKeepers x = Checks.on("person a 0 0 5;person b 3 0 5;ring p 5 a b 9;ring q 5 a b 9;walk 3;jingle 2;");
        x.days(1);
        c.due("three far", x.reach(1), 0);
        x.go(1, 0, 0);
        c.due("not who lost it", x.reach(1), 0);
        Checks.isle(x, "person a 0 0 5;person b 4 0 5;ring p 5 a b 9;ring q 5 a b 9;walk 3;jingle 2;");
        c.due("kept, four far", x.reach(1), 0);
        x.days(1);
        c.due("lost, four far", x.reach(1), 1);
        x.go(1, 1, 0);
        c.due("though who lost it is near", x.reach(1), 1);
        x.go(0, 1, 0);
        c.due("he comes near", x.reach(1), 0);
        Checks.isle(x, "person a 0 0 5;person b 20 20 5;ring p 5 a b 9;ring q 5 a b 9;walk 1;jingle 2;");
        x.days(1);
        c.due("the farthest", x.reach(1), 39);
        Checks.isle(x, "person a 0 0 5;ring p 5 a a 9;ring q 5 a a 9;walk 1;jingle 2;");
        x.days(1);
        c.due("where it is", x.reach(1), 0);
    }

    @Says("NONE: no such one.")
    static void p17_noSuchOne(Checks c) {
        RingKeepers x = Checks.on("person a 0 0 5;person b 0 0 5;person d 0 0 5;ring p 5 a b 9;ring q 5 a b 9;");
        for (int r : NOT_OF_TWO) {
            c.due("reach " + r, x.reach(r), -1);
        }
    }

    // 18

    @Says({"IN TIME: it is not HAD or MISSED,", "RINGS that can be IN TIME, as bits."})
    static void p18_notHadOrMissed(Checks c) {
        RingKeepers x = Checks.on("person a 0 0 5;person b 0 0 5;ring p 5 a a 0;ring q 5 a b 0;ring r 5 a b 1;ring s 5 b b 2;");
        c.due("all", x.inTime(), 15);
        x.days(1);
        x.go(0, 0, 0);
        x.odds(0, 1, 1);
        x.undo();
        c.due("all, once that day is undone", x.inTime(), 15);
        x.days(1);
        c.due("had and missed are not", x.inTime(), 12);
        x.days(1);
        c.due("one is left", x.inTime(), 8);
        x.days(1);
        c.due("none", x.inTime(), 0);
        c.due("without rings", new RingKeepers().inTime(), 0);
        Checks.isle(x, "person a 0 0 5;ring p 5 a a 9;ring q 5 a a 9;ring r 5 a a 9;jingle 2;");
        x.wear(0, 0);
        x.days(1);
        c.due("a worn one, a kept one, a lost one", x.inTime(), 7);
    }

    @Says("and the DAY then is not behind that on which it is due.")
    static void p18_notBehindTheDayOnWhichItIsDue(Checks c) {
        RingKeepers x = Checks.on("person a 0 0 5;person b 13 0 5;ring p 5 a b 1;ring q 5 a b 2;ring r 5 a b 3;ring s 5 a a 0;"
            + "walk 3;");
        c.due("reach", x.reach(0), 2);
        c.due("due on 2 and 3, and today", x.inTime(), 2 | 4 | 8);
        x.days(1);
        c.due("a day later", x.inTime(), 4);
        x.days(1);
        c.due("two days later", x.inTime(), 0);
    }

    // 19, 20

    @Says({"TOUR of a PERSON: the least FAR in all by which he comes to all of those",
        "TOUR of a PERSON: how FAR;", "who stay, one behind the other;"})
    static void p19_leastFarInAll(Checks c) {
        RingKeepers x = Checks.on("person a 9 0 5;person b 0 0 5;person d 2 0 5;person e 20 0 5;person f 12 0 5;"
            + "ring p 5 b a 0;ring q 5 d a 0;ring r 5 e a 0;ring s 5 f a 0;jingle 9;");
        c.due("the nearer end first", x.tour(0), 29);
        c.due("the way", tourOf(x), "1243");
        Checks.isle(x, "person a 9 0 5;person b 20 0 5;person d 8 0 5;ring p 5 b a 0;ring q 5 d a 0;");
        c.due("by the second first", x.tour(0), 13);
        c.due("the way", tourOf(x), "21");
        Checks.isle(x, "person a 0 0 5;person b 20 20 5;ring p 5 b a 0;");
        c.due("the farthest", x.tour(0), 40);
        Checks.isle(x, "person a 0 0 5;person b 20 20 5;person d 0 0 5;person e 20 20 5;person f 0 0 5;person g 20 20 5;"
            + "person h 0 0 5;ring p 5 b a 0;ring q 5 d a 0;ring r 5 e a 0;ring s 5 f a 0;ring t 5 g a 0;ring u 5 h a 0;");
        c.due("six of them", x.tour(0), 40);
        c.due("all of them", tourOf(x), "246135");
    }

    @Says("who stay, one behind the other;")
    static void p19_oneBehindTheOther(Checks c) {
        RingKeepers x = Checks.on("person a 0 0 5;person b 5 0 5;person d 5 5 5;person e 0 6 5;ring p 5 e a 0;ring q 5 d a 0;"
            + "ring r 5 b a 0;");
        c.due("round about", x.tour(0), 16);
        c.due("d from b, though e is nearer to a", tourOf(x), "123");
    }

    @Says("(but himself) whose RINGS he keeps,")
    static void p19_whoseRingsHeKeepsButHimself(Checks c) {
        RingKeepers x = Checks.on("person a 0 0 5;person b 5 0 5;person d 0 6 5;ring p 5 a a 0;ring q 5 b a 0;ring r 5 b a 0;"
            + "ring s 5 d b 0;ring t 5 d a 0;jingle 9;");
        c.due("twice his is once", x.tour(0), 5 + 11);
        c.due("the way", tourOf(x), "12");
        x.wear(0, 4);
        c.due("a worn one is not kept", x.tour(0), 5);
        c.due("the way", tourOf(x), "1");
        c.due("one of another's", x.tour(1), 11);
        c.due("he keeps none", x.tour(2), 0);
        c.due("no way", tourOf(x), "");
        Checks.isle(x, "person a 0 0 5;person b 5 0 5;ring p 5 a a 0;ring q 5 b a 0;jingle 2;");
        x.days(1);
        c.due("his own alone, the other is lost", x.tour(0), 0);
        c.due("no way", tourOf(x), "");
    }

    @Says("of like ones the first: PERSON by PERSON the least.")
    static void p19_firstOfLikeOnes(Checks c) {
        RingKeepers x = Checks.on("person a 10 10 5;person b 9 10 5;person d 11 10 5;person e 10 9 5;person f 10 11 5;"
            + "ring p 5 f a 0;ring q 5 e a 0;ring r 5 d a 0;ring s 5 b a 0;jingle 9;");
        c.due("a cross", x.tour(0), 7);
        c.due("person by person", tourOf(x), "1234");
        Checks.isle(x, "person b 9 0 5;person a 10 0 5;person d 11 0 5;ring p 5 d a 0;ring q 5 b a 0;");
        c.due("one on each side", x.tour(1), 3);
        c.due("the least first", tourOf(x), "02");
        Checks.isle(x, "person a 1 1 5;person b 1 1 5;person d 1 1 5;person e 1 1 5;ring p 5 e a 0;ring q 5 d a 0;ring r 5 b a 0;");
        c.due("all in one place", x.tour(0), 0);
        c.due("in their order", tourOf(x), "123");
    }

    @Says("NONE: no such one.")
    static void p19_noSuchOne(Checks c) {
        RingKeepers x = Checks.on(THREE);
        for (int p : NOT_OF_THREE) {
            c.due("tour " + p, x.tour(p), -1);
        }
        Checks.isle(x, "person a 0 0 5;person b 1 0 5;ring p 5 a b 0;");
        c.due("the last person", x.tour(1), 1);
        Checks.isle(x, "person a 0 0 5;ring p 5 a a 0;ring q 5 a a 0;");
        c.due("no second person", x.tour(1), -1);
    }

    @Says("The k-th PERSON (from 0) on it by the latest tour() that was not NONE;")
    static void p20_byTheLatestTour(Checks c) {
        RingKeepers x = Checks.on(THREE);
        x.tour(1);
        c.due("first", x.tourAt(0), 0);
        c.due("second", x.tourAt(1), 2);
        x.tour(3);
        c.due("a tour of nobody leaves it", x.tourAt(1), 2);
        x.go(1, 4, 3);
        x.days(1);
        Checks.isle(x, TWO);
        c.due("as it was then", x.tourAt(1), 2);
        x.tour(1);
        c.due("the latest", x.tourAt(0), 0);
        c.due("no second", x.tourAt(1), -1);
    }

    @Says("NONE: none such, or ahead of any.")
    static void p20_noneSuchOrAheadOfAny(Checks c) {
        RingKeepers x = Checks.on(THREE);
        c.due("ahead of any", x.tourAt(0), -1);
        x.tour(3);
        c.due("behind one that is none", x.tourAt(0), -1);
        x.tour(1);
        for (int k : new int[] {-1, 2, 6, 7, Integer.MIN_VALUE, Integer.MAX_VALUE}) {
            c.due("tourAt " + k, x.tourAt(k), -1);
        }
        x.tour(0);
        c.due("of a tour to nobody", x.tourAt(0), -1);
    }

    // 21, 22

    @Says("KEEPERS anew: each RING that is not LOST to a PERSON whose it is not,")
    static void p21_eachToWhoseItIsNot(Checks c) {
        RingKeepers x = Checks.on("person a 0 0 5;person b 3 0 5;person d 20 0 5;ring p 5 a a 0;");
        c.due("not to himself", x.keepers(), 3);
        c.due("keeper", keepersOf(x, 1), "1");
        c.due("nothing is handed", x.ring(0, 2), 0);
        Checks.isle(x, "person a 0 0 5;person b 3 0 5;ring p 5 a a 0;ring q 5 a a 0;jingle 2;");
        c.due("two for one", x.keepers(), -1);
        x.days(1);
        c.due("one is lost", x.keepers(), 3);
        c.due("keepers", keepersOf(x, 2), "1 -1");
        x.wear(0, 0);
        c.due("a worn one is not lost", x.keepers(), 3);
    }

    @Says("one to each at most, so that the sum of how FAR each is from whose it is is the least;")
    static void p21_oneToEachTheLeastSum(Checks c) {
        RingKeepers x = Checks.on("person a 0 0 5;person b 1 0 5;person d 0 10 5;ring p 5 a a 0;ring q 5 a a 0;");
        c.due("one to each", x.keepers(), 11);
        c.due("keepers", keepersOf(x, 2), "1 2");
        Checks.isle(x, THREE);
        c.due("sum", x.keepers(), 40);
        c.due("keepers", keepersOf(x, 3), "1 2 0");
        Checks.isle(x, "person a 0 0 5;person b 20 20 5;person d 0 0 5;person e 20 20 5;ring p 5 a b 0;ring q 5 b a 0;"
            + "ring r 5 d b 0;ring s 5 e a 0;");
        c.due("near ones", x.keepers(), 0);
        c.due("keepers", keepersOf(x, 4), "2 3 0 1");
        Checks.isle(x, "person a 0 0 5;person b 1 0 5;person d 3 0 5;person e 10 0 5;ring p 5 a a 0;ring q 5 d d 0;");
        c.due("not each his nearest", x.keepers(), 1 + 3);
        c.due("keepers", keepersOf(x, 2), "1 0");
    }

    @Says("is the least; of like ones the first: RING by RING the least PERSON.")
    static void p21_firstOfLikeOnes(Checks c) {
        StringBuilder text = new StringBuilder();
        for (int p = 0; p < 7; p++) {
            text.append("person ").append((char) ('a' + p)).append(" 1 1 5;");
        }
        for (int r = 0; r < 7; r++) {
            text.append("ring ").append((char) ('p' + r)).append(" 5 ").append((char) ('a' + r)).append(" a 0;");
        }
        RingKeepers x = Checks.on(text.toString());
        c.due("all in one place", x.keepers(), 0);
        c.due("ring by ring", keepersOf(x, 7), "1 0 3 2 5 6 4");
        Checks.isle(x, "person a 1 1 5;person b 1 1 5;person d 1 1 5;ring p 5 d a 0;ring q 5 d a 0;");
        c.due("two of one", x.keepers(), 0);
        c.due("the least first", keepersOf(x, 2), "0 1");
    }

    @Says("KEEPERS: the sum; NONE: not for all.")
    static void p21_notForAll(Checks c) {
        RingKeepers x = Checks.on("person a 0 0 5;ring p 5 a a 0;");
        c.due("himself alone", x.keepers(), -1);
        Checks.isle(x, "person a 0 0 5;person b 0 0 5;person d 0 0 5;ring p 5 a a 0;ring q 5 a a 0;ring r 5 a a 0;");
        c.due("three for two", x.keepers(), -1);
        Checks.isle(x, "person a 0 0 5;person b 0 0 5;ring p 5 a a 0;ring q 5 b a 0;ring r 5 b a 0;");
        c.due("more rings than persons", x.keepers(), -1);
        Checks.isle(x, "person a 0 0 5;");
        c.due("no rings", x.keepers(), 0);
        c.due("nobody", new RingKeepers().keepers(), 0);
        Checks.isle(x, "person a 0 0 5;ring p 5 a a 0;ring q 5 a a 0;jingle 2;");
        x.days(1);
        c.due("one is left, for himself alone", x.keepers(), -1);
    }

    @Says("The keeper of a RING by the latest keepers() that was not NONE;")
    static void p22_byTheLatestKeepers(Checks c) {
        RingKeepers x = Checks.on(THREE);
        x.keepers();
        c.due("keepers", keepersOf(x, 4), "1 2 0 -1");
        x.go(1, 4, 3);
        Checks.isle(x, "person a 0 0 5;ring p 5 a a 0;");
        c.due("as it was then", keepersOf(x, 3), "1 2 0");
        x.keepers();
        c.due("one of NONE leaves it", keepersOf(x, 3), "1 2 0");
        Checks.isle(x, "person a 0 0 5;person b 0 0 5;ring p 5 b a 0;");
        x.keepers();
        c.due("the latest", keepersOf(x, 3), "0 -1 -1");
        Checks.isle(x, "person a 0 0 5;");
        x.keepers();
        c.due("one without rings", x.keeperOf(0), -1);
    }

    @Says("NONE: it was LOST, no such one, or ahead of any.")
    static void p22_lostNoSuchOneOrAheadOfAny(Checks c) {
        RingKeepers x = Checks.on("person a 0 0 5;person b 0 0 5;ring p 5 b a 0;ring q 5 b a 0;ring r 5 a b 0;jingle 2;");
        c.due("ahead of any", keepersOf(x, 3), "-1 -1 -1");
        x.keepers();
        c.due("behind one of NONE", keepersOf(x, 3), "-1 -1 -1");
        x.days(1);
        x.keepers();
        c.due("one was lost", keepersOf(x, 3), "0 -1 1");
        x.find(0, 1);
        c.due("was lost then", keepersOf(x, 3), "0 -1 1");
        for (int r : NOT_OF_THREE) {
            c.due("keeperOf " + r, x.keeperOf(r), -1);
        }
    }

    // 23 to 25

    @Says("SIZES by the tape (pairs of bytes: a PERSON, 0 it was TIGHT, 1 it FITTED, 2 it was LOOSE;")
    static void p23_pairsOfAPersonAndHowItWas(Checks c) {
        RingKeepers x = Checks.on("person a 0 0 10;person b 0 0 12;fit 2;");
        c.due("tight: 1 to 7", Checks.sizes(x, 0, 0), 7);
        c.due("fitted: 8 to 12", Checks.sizes(x, 0, 1), 5);
        c.due("loose: 13 to 20", Checks.sizes(x, 0, 2), 8);
        c.due("by the second: 1 to 9", Checks.sizes(x, 1, 0), 9);
        c.due("by both: 8 to 9", Checks.sizes(x, 0, 1, 1, 0), 2);
        c.due("fits both: 10 to 12", Checks.sizes(x, 1, 1, 0, 1), 3);
        c.due("no such kind", Checks.sizes(x, 0, 3), -1);
        c.due("no such kind", Checks.sizes(x, 0, 255), -1);
        c.due("no such person", Checks.sizes(x, 2, 1), -1);
        c.due("no such person", Checks.sizes(x, 255, 1), -1);
        c.due("no such person in the second pair", Checks.sizes(x, 0, 1, 2, 1), -1);
        c.due("no such kind in the second pair", Checks.sizes(x, 0, 1, 1, 3), -1);
    }

    @Says("2 it was LOOSE; 1 to 8 of them):")
    static void p23_oneTo8Pairs(Checks c) {
        RingKeepers x = Checks.on("person a 0 0 10;fit 2;");
        c.due("none", Checks.sizes(x), -1);
        c.due("half a pair", Checks.sizes(x, 0), -1);
        c.due("one", Checks.sizes(x, 0, 1), 5);
        c.due("one and a half", Checks.sizes(x, 0, 1, 0), -1);
        c.due("eight", Checks.sizes(x, 0, 1, 0, 1, 0, 1, 0, 1, 0, 1, 0, 1, 0, 1, 0, 1), 5);
        c.due("the eighth counts", Checks.sizes(x, 0, 1, 0, 1, 0, 1, 0, 1, 0, 1, 0, 1, 0, 1, 0, 2), 0);
        c.due("eight and a half", Checks.sizes(x, 0, 1, 0, 1, 0, 1, 0, 1, 0, 1, 0, 1, 0, 1, 0, 1, 0), -1);
        c.due("nine", Checks.sizes(x, 0, 1, 0, 1, 0, 1, 0, 1, 0, 1, 0, 1, 0, 1, 0, 1, 0, 1), -1);
    }

    @Says({"SIZES (1 to 20) that would be just so.", "SIZES: how many;"})
    static void p23_sizesAre1To20(Checks c) {
        RingKeepers x = Checks.on("person a 0 0 1;person b 0 0 20;person d 0 0 6;person e 0 0 15;fit 5;");
        c.due("1 to 6", Checks.sizes(x, 0, 1), 6);
        c.due("least", x.sizeLeast(), 1);
        c.due("15 to 20", Checks.sizes(x, 1, 1), 6);
        c.due("least", x.sizeLeast(), 15);
        c.due("7 to 20", Checks.sizes(x, 0, 2), 14);
        c.due("none below 1", Checks.sizes(x, 2, 0), 0);
        c.due("none above 20", Checks.sizes(x, 3, 2), 0);
        c.due("none is just so", Checks.sizes(x, 0, 1, 1, 1), 0);
        c.due("none is less than the least", Checks.sizes(x, 0, 0), 0);
    }

    @Says("NONE: not as told.")
    static void p23_noneEmptiesTheTapeToo(Checks c) {
        RingKeepers x = Checks.on(TWO);
        c.due("good", Checks.sizes(x, 0, 1) > 0, true);
        c.due("bytes", x.count(5), 0);
        c.due("none", Checks.sizes(x, 9, 1, 0), -1);
        c.due("bytes", x.count(5), 0);
        c.due("on an island without persons", Checks.sizes(new RingKeepers(), 0, 1), -1);
    }

    @Says("The least of them by the latest sizes() above 0;")
    static void p24_leastByTheLatestAbove0(Checks c) {
        RingKeepers x = Checks.on("person a 0 0 10;fit 2;");
        Checks.sizes(x, 0, 1);
        c.due("fitted", x.sizeLeast(), 8);
        Checks.sizes(x, 0, 2);
        c.due("loose", x.sizeLeast(), 13);
        Checks.sizes(x, 0, 1, 0, 2);
        c.due("0 leaves it", x.sizeLeast(), 13);
        Checks.sizes(x, 0);
        c.due("NONE leaves it", x.sizeLeast(), 13);
        Checks.isle(x, "");
        c.due("an island leaves it", x.sizeLeast(), 13);
        Checks.isle(x, "person a 0 0 10;fit 0;");
        Checks.sizes(x, 0, 0);
        c.due("tight", x.sizeLeast(), 1);
        Checks.isle(x, "person a 0 0 19;fit 0;");
        Checks.sizes(x, 0, 2);
        c.due("the greatest", x.sizeLeast(), 20);
    }

    @Says("NONE ahead of any.")
    static void p24_aheadOfAny(Checks c) {
        RingKeepers x = Checks.on("person a 0 0 10;");
        c.due("ahead", x.sizeLeast(), -1);
        Checks.sizes(x, 0);
        c.due("behind one of NONE", x.sizeLeast(), -1);
        Checks.sizes(x, 0, 1, 0, 2);
        c.due("behind one of 0", x.sizeLeast(), -1);
    }

    @Says({"KNUCKLE: the PERSON by whom, whatever he finds, the greatest number of these that may still be left is the least",
        "KNUCKLE by that;"})
    static void p25_greatestNumberLeftIsTheLeast(Checks c) {
        RingKeepers x = Checks.on("person a 0 0 10;person b 0 0 8;person d 0 0 5;person e 0 0 1;fit 0;");
        Checks.sizes(x, 0, 0);
        c.due("of 1 to 9: 4, 1, 4", x.knuckle(), 2);
        Checks.sizes(x, 0, 2);
        c.due("of 11 to 20 nobody tells", x.knuckle(), 0);
        Checks.sizes(x, 2, 2);
        c.due("of 6 to 20: 4, 1, 10 by a, 2, 1, 12 by b", x.knuckle(), 0);
        Checks.sizes(x, 1, 1);
        c.due("of one", x.knuckle(), 0);
        Checks.isle(x, "person a 0 0 10;person b 0 0 10;person d 0 0 7;fit 3;");
        Checks.sizes(x, 0, 1);
        c.due("of 7 to 13: 4 fit d, 3 are loose", x.knuckle(), 2);
        Checks.isle(x, "person a 0 0 10;person b 0 0 10;person d 0 0 13;fit 3;");
        Checks.sizes(x, 0, 1);
        c.due("of 7 to 13: 3 are tight, 4 fit d", x.knuckle(), 2);
    }

    @Says("is the least (of like ones the first).")
    static void p25_firstOfLikeOnes(Checks c) {
        RingKeepers x = Checks.on("person a 0 0 20;person b 0 0 5;person d 0 0 5;person e 0 0 6;fit 0;");
        Checks.sizes(x, 0, 0);
        c.due("1 to 19: 13 by e", x.knuckle(), 3);
        Checks.sizes(x, 0, 0, 3, 0);
        c.due("1 to 5: 4 by b and by d", x.knuckle(), 1);
        Checks.sizes(x, 0, 1);
        c.due("20: all are alike", x.knuckle(), 0);
        Checks.isle(x, "person a 0 0 6;person b 0 0 4;person d 0 0 10;fit 0;");
        Checks.sizes(x, 2, 0);
        c.due("1 to 9: 5 tight by a, 5 loose by b", x.knuckle(), 0);
        Checks.isle(x, "person a 0 0 4;person b 0 0 6;person d 0 0 10;fit 0;");
        Checks.sizes(x, 2, 0);
        c.due("1 to 9: 5 loose by a, 5 tight by b", x.knuckle(), 0);
        Checks.isle(x, "person a 0 0 14;person b 0 0 7;person d 0 0 10;fit 3;");
        Checks.sizes(x, 2, 1);
        c.due("7 to 13: 4 tight by a, 4 fit b", x.knuckle(), 0);
    }

    @Says("the greatest number of these that may still be left")
    static void p25_leastAndGreatestSizesCount(Checks c) {
        RingKeepers x = Checks.on("person a 0 0 17;person b 0 0 18;person d 0 0 15;fit 0;");
        Checks.sizes(x, 2, 2);
        c.due("16 to 20: 18 to 20 loose by a, 19 to 20 by b", x.knuckle(), 1);
        Checks.isle(x, "person a 0 0 4;person b 0 0 3;person d 0 0 6;fit 0;");
        Checks.sizes(x, 2, 0);
        c.due("1 to 5: 1 to 3 tight by a, 1 to 2 by b", x.knuckle(), 1);
        Checks.isle(x, "person a 0 0 20;fit 0;");
        c.due("the most there are", Checks.sizes(x, 0, 0), 19);
        c.due("he alone", x.knuckle(), 0);
        Checks.isle(x, "person a 0 0 1;fit 0;");
        c.due("the most there are", Checks.sizes(x, 0, 2), 19);
        c.due("he alone", x.knuckle(), 0);
    }

    @Says("NONE ahead of any.")
    static void p25_aheadOfAny(Checks c) {
        RingKeepers x = Checks.on("person a 0 0 10;person b 0 0 5;fit 0;");
        c.due("ahead", x.knuckle(), -1);
        Checks.sizes(x, 0);
        Checks.sizes(x, 0, 1, 0, 2);
        c.due("behind such of NONE and 0", x.knuckle(), -1);
        Checks.sizes(x, 0, 0);
        c.due("behind one above 0", x.knuckle(), 1);
        Checks.sizes(x, 0);
        Checks.sizes(x, 0, 1, 0, 2);
        c.due("NONE and 0 leave it", x.knuckle(), 1);
    }

    // 26, 27

    @Says("WAYS: how many ways there are to give each RING to a PERSON whom it FITS,")
    static void p26_toWhomItFits(Checks c) {
        RingKeepers x = Checks.on("person a 0 0 10;person b 0 0 12;person d 0 0 14;ring p 12 a a 0;fit 2;");
        c.due("all three", x.ways(), 3);
        Checks.isle(x, "person a 0 0 10;person b 0 0 12;person d 0 0 14;ring p 13 a a 0;fit 2;");
        c.due("it is loose on a", x.ways(), 2);
        Checks.isle(x, "person a 0 0 10;person b 0 0 12;person d 0 0 14;ring p 11 a a 0;fit 2;");
        c.due("it is tight on d", x.ways(), 2);
        Checks.isle(x, "person a 0 0 10;person b 0 0 12;ring p 20 a a 0;ring q 11 a a 0;fit 2;");
        c.due("one fits nobody", x.ways(), 0);
    }

    @Says("one to each at most (LOST ones, too; whosoever they are).")
    static void p26_oneToEachLostOnesToo(Checks c) {
        RingKeepers x = Checks.on("person a 0 0 5;person b 0 0 5;ring p 5 a a 0;ring q 5 a a 0;jingle 2;");
        c.due("two to two", x.ways(), 2);
        x.days(1);
        c.due("a lost one too", x.ways(), 2);
        x.wear(0, 0);
        c.due("a worn one too", x.ways(), 2);
        Checks.isle(x, "person a 0 0 5;person b 0 0 5;ring p 5 a a 0;ring q 5 a a 0;ring r 5 a a 0;");
        c.due("three to two", x.ways(), 0);
        Checks.isle(x, "person a 0 0 5;person b 0 0 9;person d 0 0 6;ring p 5 a a 0;ring q 6 a a 0;");
        c.due("both fit a and d alone", x.ways(), 2);
    }

    @Says("WAYS: how many (no RINGS: 1).")
    static void p26_noneAndMost(Checks c) {
        c.due("no rings, nobody", new RingKeepers().ways(), 1);
        RingKeepers x = Checks.on("person a 0 0 5;person b 0 0 5;");
        c.due("no rings", x.ways(), 1);
        StringBuilder text = new StringBuilder();
        for (int i = 0; i < 7; i++) {
            text.append("person ").append((char) ('a' + i)).append(" 0 0 5;");
        }
        Checks.isle(x, text + "ring p 5 a a 0;");
        c.due("seven", x.ways(), 7);
        for (int i = 0; i < 6; i++) {
            text.append("ring ").append((char) ('p' + i)).append(" 5 a a 0;");
        }
        Checks.isle(x, text.toString());
        c.due("six to seven", x.ways(), 5040);
        Checks.isle(x, text + "ring z 5 a a 0;");
        c.due("seven to seven", x.ways(), 5040);
    }

    @Says({"LIKELY of a RING: the PERSON who has it in most of these", "LIKELY of a RING;"})
    static void p27_inMostOfTheWays(Checks c) {
        RingKeepers x = Checks.on("person a 0 0 5;person b 0 0 6;person d 0 0 8;ring p 6 a a 0;ring q 5 b a 0;fit 1;");
        c.due("p to a, q to b, or p to b, q to a", x.likely(0), 0);
        Checks.isle(x, "person a 0 0 5;person b 0 0 6;person d 0 0 8;ring p 6 a a 0;ring q 4 b a 0;fit 1;");
        c.due("a is taken by q", x.likely(0), 1);
        c.due("q fits a alone", x.likely(1), 0);
        Checks.isle(x, "person a 0 0 4;person b 0 0 6;person d 0 0 8;person e 0 0 5;ring p 5 a a 0;ring q 7 b a 0;ring r 4 b a 0;fit 1;");
        // r: a or e; q: b or d; p: a, b or e: by a 2 ways, by b 2, by e 2
        c.due("p: all alike", x.likely(0), 0);
        c.due("q: d in four of six", x.likely(1), 2);
        c.due("r: a and e alike", x.likely(2), 0);
    }

    @Says("in most of these (of like ones the first).")
    static void p27_firstOfLikeOnes(Checks c) {
        RingKeepers x = Checks.on("person a 0 0 9;person b 0 0 5;person d 0 0 5;ring p 5 a a 0;ring q 5 a a 0;");
        c.due("b and d alike", x.likely(0), 1);
        c.due("b and d alike", x.likely(1), 1);
        x = Checks.on("person a 0 0 9;person b 0 0 9;person d 0 0 5;ring p 5 a a 0;");
        c.due("of one ring", x.likely(0), 2);
        StringBuilder text = new StringBuilder();
        for (int i = 0; i < 7; i++) {
            text.append("person ").append((char) ('a' + i)).append(" 0 0 ").append(i == 6 ? 7 : 5).append(";");
        }
        for (int i = 0; i < 7; i++) {
            text.append("ring ").append((char) ('p' + i)).append(' ').append(i == 3 ? 7 : 5).append(" a a 0;");
        }
        Checks.isle(x, text.toString());
        c.due("seven of seven: the one who alone can", x.likely(3), 6);
        c.due("seven of seven: all but him alike", x.likely(6), 0);
    }

    @Says("NONE: there are no WAYS, no such one.")
    static void p27_noWaysOrNoSuchOne(Checks c) {
        RingKeepers x = Checks.on("person a 0 0 5;person b 0 0 5;person d 0 0 5;ring p 5 a a 0;ring q 20 a a 0;");
        c.due("no ways, though it fits", x.likely(0), -1);
        c.due("it fits nobody", x.likely(1), -1);
        Checks.isle(x, "person a 0 0 5;ring p 5 a a 0;ring q 5 a a 0;ring r 5 a a 0;");
        Checks.isle(x, "person a 0 0 5;person b 0 0 5;person d 0 0 5;ring p 5 a a 0;ring q 5 a a 0;");
        for (int r : NOT_OF_TWO) {
            c.due("likely " + r, x.likely(r), -1);
        }
        c.due("the last ring", x.likely(1), 0);
        c.due("of no rings", new RingKeepers().likely(0), -1);
    }

    // 28, 29

    @Says("CHAIN of a PERSON: who keeps (or wears) the first RING that is his and not LOST,")
    static void p28_byTheFirstThatIsNotLost(Checks c) {
        RingKeepers x = Checks.on("person a 0 0 5;person b 0 0 5;ring q 5 b b 0;ring p 5 a b 0;ring r 5 a a 0;jingle 2;");
        c.due("by the first", x.chain(0), 2);
        c.due("not closed", x.closed(0), 0);
        x.days(1);
        c.due("the first is lost: by the second", x.chain(0), 1);
        c.due("closed", x.closed(0), 1);
        x.find(0, 1);
        x.hand(0, 1, 1);
        x.wear(1, 1);
        c.due("by the first, though worn", x.chain(0), 2);
    }

    @Says({"who that one's, and so on, as long as there is such a RING and nobody comes again: how many PERSONS, he himself counted.",
        "CHAIN of a PERSON: how many;"})
    static void p28_tillNobodyOrAgain(Checks c) {
        StringBuilder text = new StringBuilder();
        for (int i = 0; i < 7; i++) {
            text.append("person ").append((char) ('a' + i)).append(" 0 0 5;");
        }
        for (int i = 0; i < 6; i++) {
            text.append("ring ").append((char) ('p' + i)).append(" 5 ").append((char) ('a' + i)).append(' ')
                .append((char) ('b' + i)).append(" 0;");
        }
        RingKeepers x = Checks.on(text.toString());
        c.due("all seven, open", x.chain(0), 7);
        c.due("open", x.closed(0), 0);
        c.due("the last has no ring", x.chain(6), 1);
        Checks.isle(x, text + "ring z 5 g a 0;");
        c.due("all seven, closed", x.chain(3), 7);
        c.due("closed", x.closed(3), 1);
        Checks.isle(x, text + "ring z 5 g d 0;");
        c.due("all seven, d comes again", x.chain(0), 7);
        c.due("not he himself", x.closed(0), 0);
        c.due("four from d on", x.chain(3), 4);
        c.due("closed", x.closed(3), 1);
        Checks.isle(x, "person a 0 0 5;ring p 5 a a 0;");
        c.due("he keeps his own", x.chain(0), 1);
    }

    @Says("NONE: no such one.")
    static void p28_noSuchOne(Checks c) {
        RingKeepers x = Checks.on(TWO);
        for (int p : NOT_OF_TWO) {
            c.due("chain " + p, x.chain(p), -1);
        }
        Checks.isle(x, "person a 0 0 5;person b 0 0 5;person d 0 0 5;ring p 5 d a 0;");
        c.due("the last of more persons than rings", x.chain(2), 2);
        c.due("he has no ring", x.chain(1), 1);
        Checks.isle(x, "person a 0 0 5;ring p 5 a a 0;ring q 5 a a 0;");
        c.due("no second person", x.chain(1), -1);
    }

    @Says({"CLOSED: the next would be he himself.", "Whether it is CLOSED: 1, 0;"})
    static void p29_theNextWouldBeHeHimself(Checks c) {
        RingKeepers x = Checks.on("person a 0 0 5;person b 0 0 5;person d 0 0 5;ring p 5 a b 0;ring q 5 b d 0;ring r 5 d b 0;");
        c.due("a to b to d to b", x.closed(0), 0);
        c.due("b to d to b", x.closed(1), 1);
        c.due("d to b to d", x.closed(2), 1);
        Checks.isle(x, "person a 0 0 5;person b 0 0 5;ring p 5 a b 0;ring q 5 b b 0;");
        c.due("a to b to b", x.closed(0), 0);
        c.due("b to b", x.closed(1), 1);
        Checks.isle(x, "person a 0 0 5;person b 0 0 5;ring p 5 a b 0;");
        c.due("b has no ring", x.closed(0), 0);
        c.due("no ring at all", x.closed(1), 0);
    }

    @Says("NONE: no such one.")
    static void p29_noSuchOne(Checks c) {
        RingKeepers x = Checks.on(TWO);
        for (int p : NOT_OF_TWO) {
            c.due("closed " + p, x.closed(p), -1);
        }
        Checks.isle(x, "person a 0 0 5;person b 0 0 5;person d 0 0 5;ring p 5 d d 0;");
        c.due("the last of more persons than rings", x.closed(2), 1);
        Checks.isle(x, "person a 0 0 5;ring p 5 a a 0;ring q 5 a a 0;");
        c.due("no second person", x.closed(1), -1);
    }

    // 30, 31

    @Says({"NOTE of a PERSON: his NAME, ' keeps ' and how many as digits,", "NOTE of a PERSON: how many bytes;"})
    static void p30_nameAndHowMany(Checks c) {
        RingKeepers x = Checks.on(THREE);
        c.due("bytes", x.note(0), 11);
        c.due("none", Checks.noteOf(x, 0), "ann keeps 0");
        StringBuilder text = new StringBuilder("person abcdefg 0 0 5;person q 0 0 5;");
        for (int r = 0; r < 7; r++) {
            text.append("ring ").append((char) ('r' + r)).append("zzzzzz 5 abcdefg abcdefg 0;");
        }
        Checks.isle(x, text.toString());
        c.due("seven", Checks.noteOf(x, 0), "abcdefg keeps 7 for" + " abcdefg".repeat(7));
        c.due("bytes of seven", x.note(0), 75);
        x.wear(0, 6);
        c.due("the longest", Checks.noteOf(x, 0), "abcdefg keeps 6 for" + " abcdefg".repeat(6) + " wears xzzzzzz");
        c.due("bytes of the longest", x.note(0), 81);
    }

    @Says("then, if some, ' for' and for each, by number, a blank and the NAME of whose it is;")
    static void p30_forWhomIfSome(Checks c) {
        RingKeepers x = Checks.on(THREE);
        c.due("some", Checks.noteOf(x, 1), "bob keeps 3 for ann bob cid");
        c.due("none", Checks.noteOf(x, 2), "cid keeps 0");
        x.days(1);
        c.due("a lost one is not kept", Checks.noteOf(x, 1), "bob keeps 2 for ann bob");
        Checks.isle(x, "person a 0 0 5;person b 0 0 5;ring z 5 b a 0;ring y 5 a a 0;ring x 5 b a 0;");
        c.due("each, by the ring's number", Checks.noteOf(x, 0), "a keeps 3 for b a b");
    }

    @Says("' wears ' and the NAME of the RING that he wears, if he wears one.")
    static void p30_whatHeWears(Checks c) {
        RingKeepers x = Checks.on(THREE);
        x.wear(1, 1);
        c.due("worn", Checks.noteOf(x, 1), "bob keeps 2 for ann cid wears tin");
        Checks.isle(x, TWO);
        x.wear(0, 1);
        c.due("worn alone", Checks.noteOf(x, 0), "a keeps 0 wears s");
        c.due("the other wears none", Checks.noteOf(x, 1), "b keeps 1 for a");
    }

    @Says("NONE: no such one.")
    static void p30_noSuchOne(Checks c) {
        RingKeepers x = Checks.on(TWO);
        x.note(1);
        for (int p : NOT_OF_TWO) {
            c.due("note " + p, x.note(p), -1);
        }
        c.due("the latest stays", x.byteAt(0), 'b');
        Checks.isle(x, "person a 0 0 5;person b 0 0 5;");
        c.due("the last person", x.note(1), 9);
        Checks.isle(x, "person a 0 0 5;ring p 5 a a 0;ring q 5 a a 0;");
        c.due("no second person", x.note(1), -1);
    }

    @Says("Byte i of the latest NOTE;")
    static void p31_byteOfTheLatestNote(Checks c) {
        RingKeepers x = Checks.on(THREE);
        x.note(1);
        x.note(0);
        c.due("first", x.byteAt(0), 'a');
        c.due("last", x.byteAt(10), '0');
        x.days(9);
        Checks.isle(x, TWO);
        c.due("as it was then", x.byteAt(2), 'n');
    }

    @Says("NONE: none such.")
    static void p31_noneSuch(Checks c) {
        RingKeepers x = Checks.on(THREE);
        c.due("ahead of any", x.byteAt(0), -1);
        x.note(5);
        c.due("behind one of NONE", x.byteAt(0), -1);
        x.note(1);
        x.note(0);
        for (int i : new int[] {-1, 11, 26, 127, 128, Integer.MIN_VALUE, Integer.MAX_VALUE}) {
            c.due("byteAt " + i, x.byteAt(i), -1);
        }
    }
}
