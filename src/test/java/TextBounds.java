/** Bounds of the texts: TOKENS, ISLANDS, BOOKS, SENTENCES and their FAULTS. */
final class TextBounds {
    private static final String TWO = "person a 3 4 5;person b 3 4 6;ring r 5 a b 0;ring s 6 b a 5;jingle 2;";
    private static final String A = "person a 0 0 5;";
    private static final String WORDS = "person ring fit walk jingle goes hands wears doffs finds day or and not ringed"
        + " happy bare has by keeps steps finger number";

    private TextBounds() {
    }

    /** One that has read texts of each kind: none of them may show in the next. */
    private static RingKeepers used() {
        RingKeepers x = Checks.on("person z 1 1 9;ring zz 9 z z 9;fit 4;walk 4;jingle 4;fit 4");
        Checks.isle(x, "fit 3;walk 2;jingle 2;" + TWO.replace("jingle 2;", ""));
        Checks.book(x, 0, "a goes 1 1;b hands r a;");
        Checks.sentence(x, "keeps < 5 or has r and by a");
        return x;
    }

    private static void good(Checks c, String text, int lines) {
        goodOn(c, new RingKeepers(), text, lines);
        goodOn(c, used(), text, lines);
    }

    private static void goodOn(Checks c, RingKeepers x, String text, int lines) {
        c.due("island of " + text, Checks.isle(x, text), lines);
        c.due("fault of " + text, x.fault(), 0);
    }

    private static void bad(Checks c, String text, int place, int kind) {
        badOn(c, new RingKeepers(), text, place, kind);
        badOn(c, used(), text, place, kind);
    }

    private static void badOn(Checks c, RingKeepers x, String text, int place, int kind) {
        c.due("island of " + text, Checks.isle(x, text), -1 - place);
        c.due("fault of " + text, x.fault(), kind);
    }

    private static RingKeepers usedOnTwo() {
        RingKeepers x = used();
        Checks.isle(x, TWO);
        return x;
    }

    private static void goodBook(Checks c, String text) {
        RingKeepers x = usedOnTwo();
        c.due("book of " + text, Checks.book(x, 0, text) >= -1, true);
        c.due("fault of " + text, x.fault(), 0);
    }

    private static void badBook(Checks c, String text, int place, int kind) {
        RingKeepers x = usedOnTwo();
        c.due("book of " + text, Checks.book(x, 0, text), -2 - place);
        c.due("fault of " + text, x.fault(), kind);
    }

    private static void goodSentence(Checks c, String text, int ones) {
        RingKeepers x = usedOnTwo();
        c.due("sentence of " + text, Checks.sentence(x, text), ones);
        c.due("fault of " + text, x.fault(), 0);
    }

    private static void badSentence(Checks c, String text, int place, int kind) {
        RingKeepers x = usedOnTwo();
        c.due("sentence of " + text, Checks.sentence(x, text), -1 - place);
        c.due("fault of " + text, x.fault(), kind);
    }

    private static String blanks(int n) {
        return " ".repeat(n);
    }

    private static String persons(int n) {
        StringBuilder text = new StringBuilder();
        for (int i = 0; i < n; i++) {
            text.append("person ").append((char) ('a' + i)).append(" 0 0 5;");
        }
        return text.toString();
    }

    private static String rings(int n) {
        StringBuilder text = new StringBuilder();
        for (int i = 0; i < n; i++) {
            text.append("ring ").append((char) ('k' + i)).append(" 5 a a 9;");
        }
        return text.toString();
    }

    // TOKENS

    @Says("TOKENS of all texts, with blanks (32, 10) between them or not")
    static void p04_blanksBetweenTokensOrNot(Checks c) {
        good(c, "fit 3;walk 2;", 2);
        good(c, " \n fit \n\n 3 \n ; walk\n2 ; \n", 2);
        goodBook(c, "\na goes 1\n2 ;day  1\n;\n ");
        goodSentence(c, "\nnot(bare)or\nkeeps<2 and(\nbare ) ", 6);
    }

    @Says("with blanks (32, 10)")
    static void p04_noOtherByteIsABlank(Checks c) {
        for (int b = 0; b < 256; b++) {
            if (b != 32 && b != 10) {
                boolean goesOn = b >= 'a' && b <= 'z' || b >= '0' && b <= '9';
                bad(c, "fit" + (char) b + "3;", goesOn ? 0 : 3, 1);
            }
        }
    }

    @Says("WORDS: small letters, 1 to 7;")
    static void p04_wordOf7LettersIsTheLongest(Checks c) {
        RingKeepers x = new RingKeepers();
        c.due("1 and 7 letters", Checks.isle(x, "person z 0 0 5;person abcdefg 0 0 5;ring zyxwvut 5 z z 0;"), 3);
        c.due("the name whole", Checks.noteOf(x, 1), "abcdefg keeps 0");
        x.wear(0, 0);
        c.due("the ring's name whole", Checks.noteOf(x, 0), "z keeps 0 wears zyxwvut");
        bad(c, "person abcdefgh 0 0 5;", 7, 1);
        bad(c, A + "ring abcdefgh 5 a a 1;", 20, 1);
        bad(c, A + "ring r 5 abcdefgh a 1;", 24, 1);
    }

    @Says("WORDS: small letters")
    static void p04_wordOfOtherSignsIsNone(Checks c) {
        for (char b : new char[] {'A', 'Z', '`', '{', '_', '-', 224, 255}) {
            bad(c, "person " + b + " 0 0 5;", 7, 1);
            bad(c, "person a" + b + " 0 0 5;", 8, 1);
        }
        bad(c, "Fit 1;", 0, 1);
    }

    @Says("NUMBERS: 1 to 3 digits")
    static void p04_numberOf3DigitsIsTheLongest(Checks c) {
        RingKeepers x = new RingKeepers();
        c.due("1 to 3 digits", Checks.isle(x, "person a 7 08 009;fit 005;"), 2);
        c.due("x", x.person(0, 0), 7);
        c.due("y", x.person(0, 1), 8);
        c.due("finger", x.person(0, 2), 9);
        c.due("fit", x.count(2), 5);
        bad(c, "fit 0005;", 4, 1);
        bad(c, "person a 0000 0 5;", 9, 1);
        bad(c, "fit /;", 4, 1);
        bad(c, "fit :;", 4, 1);
        badBook(c, "day 0001;", 4, 1);
        badSentence(c, "keeps < 0001", 8, 1);
    }

    @Says("; < = > ( ) .")
    static void p04_signsAreTokensOfTheirOwn(Checks c) {
        for (String sign : "< = > ( ) . ;".split(" ")) {
            bad(c, sign, 0, 1);
            bad(c, "fit" + sign + "1;", 3, 1);
            bad(c, "fit 1;" + sign, 6, 1);
            badBook(c, sign, 0, 1);
        }
        badSentence(c, "bare.", 4, 1);
        badSentence(c, "bare;", 4, 1);
        goodSentence(c, "((keeps<1)and(keeps=1)or(keeps>1))", 7);
    }

    @Says("A WORD, NUMBER goes on as long as small letters and digits do")
    static void p04_wordWithDigitsIsNoToken(Checks c) {
        bad(c, "fit1;", 0, 1);
        bad(c, "person a1 0 0 5;", 7, 1);
        bad(c, "person 1a 0 0 5;", 7, 1);
        bad(c, "fit 1a;", 4, 1);
        bad(c, "fit 1walk 2;", 4, 1);
        bad(c, "fit 12345678;", 4, 1);
        badBook(c, "day1;", 0, 1);
        badSentence(c, "keeps<1or bare", 6, 1);
    }

    @Says("what is not as told is no TOKEN")
    static void p04_noTokenIsAFault(Checks c) {
        bad(c, "fit -1;", 4, 1);
        bad(c, "fit +1;", 4, 1);
        bad(c, "fit 1,", 5, 1);
        bad(c, "'fit' 1;", 0, 1);
        for (int b = 128; b < 256; b++) {
            bad(c, String.valueOf((char) b), 0, 1);
        }
        bad(c, String.valueOf((char) 0), 0, 1);
    }

    // an ISLAND

    @Says("An ISLAND is a text of at most 900 bytes")
    static void p04_islandOf900Bytes(Checks c) {
        good(c, blanks(894) + "fit 3;", 1);
        good(c, "fit 3;" + blanks(894), 1);
        good(c, blanks(900), 0);
        bad(c, "fit 3;" + blanks(895), 900, 1);
        bad(c, blanks(895) + "fit 3;", 900, 1);
        bad(c, blanks(901), 900, 1);
        bad(c, blanks(940), 900, 1);
    }

    @Says("900 bytes: { LINE ; }.")
    static void p04_linesEndWithASign(Checks c) {
        good(c, "", 0);
        good(c, " \n", 0);
        bad(c, ";", 0, 1);
        bad(c, "fit 1", 5, 1);
        bad(c, "fit 1;;", 6, 1);
        bad(c, "fit 1 walk 2;", 6, 1);
        bad(c, "fit 1;walk 2", 12, 1);
    }

    @Says("LINE: 'person' NAME X Y FINGER (0 to 20 each;")
    static void p04_personXIs0To20(Checks c) {
        RingKeepers x = Checks.on("person a 0 3 5;person b 20 3 5;");
        c.due("least", x.person(0, 0), 0);
        c.due("greatest", x.person(1, 0), 20);
        bad(c, "person a 21 3 5;", 9, 2);
        bad(c, "person a 999 3 5;", 9, 2);
    }

    @Says("X Y FINGER (0 to 20 each;")
    static void p04_personYIs0To20(Checks c) {
        RingKeepers x = Checks.on("person a 3 0 5;person b 3 20 5;");
        c.due("least", x.person(0, 1), 0);
        c.due("greatest", x.person(1, 1), 20);
        bad(c, "person a 3 21 5;", 11, 2);
    }

    @Says("FINGER (0 to 20 each; 1 to 20)")
    static void p04_personFingerIs1To20(Checks c) {
        RingKeepers x = Checks.on("person a 3 0 1;person b 3 20 20;");
        c.due("least", x.person(0, 2), 1);
        c.due("greatest", x.person(1, 2), 20);
        bad(c, "person a 3 3 0;", 13, 2);
        bad(c, "person a 3 3 21;", 13, 2);
    }

    @Says("'person' NAME X Y FINGER")
    static void p04_personLacksNothingAndHasNoMore(Checks c) {
        bad(c, "person", 6, 1);
        bad(c, "person;", 6, 1);
        bad(c, "person 1 2 3;", 7, 1);
        bad(c, "person a;", 8, 1);
        bad(c, "person a 1;", 10, 1);
        bad(c, "person a 1 2;", 12, 1);
        bad(c, "person a 1 2 3 4;", 15, 1);
        bad(c, "person a b 1 2 3;", 9, 1);
    }

    @Says("'ring' NAME SIZE PERSON PERSON N (1 to 20;")
    static void p04_ringSizeIs1To20(Checks c) {
        RingKeepers x = Checks.on(A + "ring r 1 a a 5;ring s 20 a a 5;");
        c.due("least", x.ring(0, 0), 1);
        c.due("greatest", x.ring(1, 0), 20);
        bad(c, A + "ring r 0 a a 5;", 22, 2);
        bad(c, A + "ring r 21 a a 5;", 22, 2);
    }

    @Says("whose it is; who keeps it, he himself, too;")
    static void p04_ringIsWhoseThenKeptByWhom(Checks c) {
        RingKeepers x = Checks.on(A + "person b 0 0 5;ring r 5 a b 5;ring s 5 b b 5;");
        c.due("whose", x.ring(0, 1), 0);
        c.due("by whom", x.ring(0, 2), 1);
        c.due("whose, he himself", x.ring(1, 1), 1);
        c.due("he himself", x.ring(1, 2), 1);
    }

    @Says("the DAY on which it is due: 0 to 300)")
    static void p04_ringDueIs0To300(Checks c) {
        RingKeepers x = Checks.on(A + "ring r 5 a a 0;ring s 5 a a 300;");
        c.due("least", x.ring(0, 3), 0);
        c.due("greatest", x.ring(1, 3), 300);
        bad(c, A + "ring r 5 a a 301;", 28, 2);
        bad(c, A + "ring r 5 a a 999;", 28, 2);
    }

    @Says("'ring' NAME SIZE PERSON PERSON N")
    static void p04_ringLacksNothingAndHasNoMore(Checks c) {
        bad(c, A + "ring;", 19, 1);
        bad(c, A + "ring r;", 21, 1);
        bad(c, A + "ring r 5;", 23, 1);
        bad(c, A + "ring r 5 a;", 25, 1);
        bad(c, A + "ring r 5 a a;", 27, 1);
        bad(c, A + "ring r 5 a a 5 5;", 30, 1);
        bad(c, A + "ring r a a 5;", 22, 1);
        bad(c, A + "ring r 5 1 a 5;", 24, 1);
        bad(c, A + "ring r 5 a 1 5;", 26, 1);
    }

    @Says("'fit' N (0 to 5;")
    static void p04_fitIs0To5(Checks c) {
        c.due("least", Checks.on("fit 0;").count(2), 0);
        c.due("greatest", Checks.on("fit 5;").count(2), 5);
        bad(c, "fit 6;", 4, 2);
        bad(c, "fit;", 3, 1);
        bad(c, "fit 1 2;", 6, 1);
    }

    @Says("(0 to 5; once;")
    static void p04_fitOnce(Checks c) {
        bad(c, "fit 1;fit 1;", 6, 3);
        bad(c, "fit 0;walk 2; fit 2;", 14, 3);
    }

    @Says("(0 to 5; once; 1 without)")
    static void p04_fitIs1Without(Checks c) {
        RingKeepers x = Checks.on("fit 4;");
        c.due("lines", Checks.isle(x, "walk 7;jingle 7;"), 2);
        c.due("without", x.count(2), 1);
    }

    @Says("'walk' N (1 to 20;")
    static void p04_walkIs1To20(Checks c) {
        c.due("least", Checks.on("walk 1;").count(3), 1);
        c.due("greatest", Checks.on("walk 20;").count(3), 20);
        bad(c, "walk 0;", 5, 2);
        bad(c, "walk 21;", 5, 2);
        bad(c, "walk;", 4, 1);
        bad(c, "walk 1 2;", 7, 1);
    }

    @Says("(1 to 20; once;")
    static void p04_walkOnce(Checks c) {
        bad(c, "walk 1;walk 1;", 7, 3);
        bad(c, "walk 5;fit 2; walk 2;", 14, 3);
    }

    @Says("once; 5 without)")
    static void p04_walkIs5Without(Checks c) {
        RingKeepers x = Checks.on("walk 4;");
        c.due("lines", Checks.isle(x, A + "fit 2;jingle 7;"), 3);
        c.due("without", x.count(3), 5);
        c.due("steps", x.person(0, 3), 5);
    }

    @Says("'jingle' N (2 to 9;")
    static void p04_jingleIs2To9(Checks c) {
        c.due("least", Checks.on("jingle 2;").count(4), 2);
        c.due("greatest", Checks.on("jingle 9;").count(4), 9);
        bad(c, "jingle 1;", 7, 2);
        bad(c, "jingle 10;", 7, 2);
        bad(c, "jingle;", 6, 1);
        bad(c, "jingle 2 2;", 9, 1);
    }

    @Says("(2 to 9; once;")
    static void p04_jingleOnce(Checks c) {
        bad(c, "jingle 2;jingle 2;", 9, 3);
        bad(c, "jingle 4;fit 2; jingle 3;", 16, 3);
    }

    @Says("once; 4 without)")
    static void p04_jingleIs4Without(Checks c) {
        RingKeepers x = Checks.on("jingle 7;");
        c.due("lines", Checks.isle(x, "fit 2;walk 7;"), 2);
        c.due("without", x.count(4), 4);
    }

    @Says("NAME: a WORD, none of those told here, in a BOOK or a SENTENCE;")
    static void p04_noNameIsAWordOfTheTexts(Checks c) {
        for (String word : WORDS.split(" ")) {
            bad(c, "person " + word + " 0 0 5;", 7, 1);
            bad(c, A + "ring " + word + " 5 a a 5;", 20, 1);
            bad(c, A + "ring r 5 " + word + " a 5;", 24, 1);
        }
        for (String word : "persons rin fits walks jingles go hand wear doff find days nor ands knot rings".split(" ")) {
            good(c, "person " + word + " 0 0 5;", 1);
        }
    }

    @Says("SENTENCE; told once.")
    static void p04_nameOfOneAlone(Checks c) {
        bad(c, A + "person a 1 1 6;", 22, 3);
        bad(c, A + "ring r 5 a a 1;ring r 6 a a 2;", 35, 3);
        bad(c, A + "ring a 5 a a 1;", 20, 3);
        bad(c, A + "ring r 5 a a 1;person r 0 0 5;", 37, 3);
        good(c, A + "person aa 0 0 5;ring aaa 5 a aa 1;", 3);
    }

    @Says("7 PERSONS, 7 RINGS at most")
    static void p04_sevenPersonsAtMost(Checks c) {
        RingKeepers x = Checks.on(persons(7));
        c.due("seven", x.count(0), 7);
        c.due("the last", x.person(6, 2), 5);
        bad(c, persons(8), 105, 4);
    }

    @Says("7 RINGS at most")
    static void p04_sevenRingsAtMost(Checks c) {
        RingKeepers x = Checks.on(A + rings(7));
        c.due("seven", x.count(1), 7);
        c.due("the last", x.ring(6, 3), 9);
        bad(c, A + rings(8), 120, 4);
        good(c, persons(7) + rings(7) + "fit 1;walk 1;jingle 2;", 17);
    }

    @Says("numbered from 0 each")
    static void p04_numberedFrom0Each(Checks c) {
        RingKeepers x = Checks.on("person a 1 0 5;ring r 7 a a 0;person b 2 0 5;ring s 8 b a 0;");
        c.due("first person", x.person(0, 0), 1);
        c.due("second person", x.person(1, 0), 2);
        c.due("first ring", x.ring(0, 0), 7);
        c.due("second ring", x.ring(1, 0), 8);
        c.due("its person", x.ring(1, 1), 1);
    }

    // FAULTS of an ISLAND, and of all texts

    @Says("FAULTS, the first along the text")
    static void p05_firstFaultAlongTheText(Checks c) {
        bad(c, "fit 9;walk", 4, 2);
        bad(c, "walk;fit 9;", 4, 1);
        bad(c, "fit 1;fit 9 9", 6, 3);
        bad(c, persons(7) + "person a 99 99 99", 105, 4);
        bad(c, "person a 21 0 5;" + blanks(900), 9, 2);
    }

    @Says("of one TOKEN the least:")
    static void p05_ofOneTokenTheLeastFault(Checks c) {
        String forty = "day 1;".repeat(40);
        badBook(c, forty + "zz goes 1 1;", 240, 3);
        badBook(c, forty + "goes", 240, 1);
        badSentence(c, "bare" + " or bare".repeat(19) + " or zz", 160, 1);
        badSentence(c, "not not not not not not not not )", 32, 1);
    }

    @Says("1 no TOKEN, or one that can't come (at it;")
    static void p05_fault1AtTheToken(Checks c) {
        bad(c, "  ?", 2, 1);
        bad(c, "\n\n12", 2, 1);
        bad(c, "fit  fit;", 5, 1);
        bad(c, "goes 1 1;", 0, 1);
        bad(c, "a 1 1;", 0, 1);
        badBook(c, "  a  b;", 5, 1);
        badBook(c, "a;", 1, 1);
        badBook(c, "day 1;a;", 7, 1);
        badBook(c, "fit 1;", 0, 1);
        badSentence(c, "  bare  bare", 8, 1);
        badSentence(c, "person", 0, 1);
    }

    @Says("the end: how many bytes there are;")
    static void p05_fault1AtTheEnd(Checks c) {
        bad(c, "fit", 3, 1);
        bad(c, "fit 1 \n ", 8, 1);
        bad(c, "fit 1;walk", 10, 1);
        bad(c, blanks(895) + "fit 3", 900, 1);
        badBook(c, "day 1 ", 6, 1);
        badBook(c, "a", 1, 1);
        badSentence(c, "", 0, 1);
        badSentence(c, "  ", 2, 1);
        badSentence(c, "not \n", 5, 1);
    }

    @Says("the most bytes told, if there are more and no FAULT is ahead:")
    static void p05_fault1AtTheMostBytes(Checks c) {
        bad(c, "fit 3;" + blanks(895), 900, 1);
        bad(c, "fit 3" + blanks(900), 900, 1);
        bad(c, blanks(900) + "?", 900, 1);
        bad(c, blanks(930) + "fit 9;", 900, 1);
        bad(c, "fit" + blanks(900), 900, 1);
        bad(c, "person a" + blanks(900), 900, 1);
        badBook(c, blanks(401), 400, 1);
        badBook(c, "day 1" + blanks(500), 400, 1);
        badBook(c, "day" + blanks(500), 400, 1);
        badBook(c, "b hands r" + blanks(500), 400, 1);
        badSentence(c, "bare" + blanks(197), 200, 1);
        badSentence(c, "bare or" + blanks(197), 200, 1);
        badSentence(c, blanks(300), 200, 1);
    }

    @Says("the most bytes told, if there are more")
    static void p05_tokensBehindTheMostBytesAreNotRead(Checks c) {
        bad(c, "fit" + blanks(897) + "9;", 900, 1);
        bad(c, "fit 1;" + blanks(894) + "fit 1;", 900, 1);
        bad(c, persons(7) + blanks(795) + "person", 900, 1);
        bad(c, A + "ring r 5 a" + blanks(875) + "q 1;", 900, 1);
        bad(c, "fit 3;" + blanks(894) + ";", 900, 1);
        badBook(c, "day" + blanks(397) + "99;", 400, 1);
        badBook(c, "day 1;".repeat(40) + blanks(160) + "day 1;", 400, 1);
        badBook(c, "a wears" + blanks(393) + "q;", 400, 1);
        badSentence(c, "has" + blanks(197) + "q", 200, 1);
        badSentence(c, "not not not not not not not not" + blanks(169) + "bare", 200, 1);
    }

    @Says("if there are more and no FAULT is ahead")
    static void p05_faultAheadOfTheMostBytes(Checks c) {
        bad(c, "fit 6;" + blanks(934), 4, 2);
        bad(c, blanks(899) + "?" + blanks(9), 899, 1);
        badBook(c, "q doffs;" + blanks(400), 0, 3);
        badSentence(c, "has a" + blanks(200), 4, 3);
    }

    @Says("TOKENS that begin ahead of it are read whole)")
    static void p05_tokensThatBeginAheadOfTheMostAreReadWhole(Checks c) {
        bad(c, blanks(899) + "fit", 900, 1);
        bad(c, blanks(899) + "fits", 899, 1);
        bad(c, blanks(895) + "fit 005;", 900, 1);
        bad(c, blanks(895) + "fit 006;", 899, 2);
        bad(c, blanks(895) + "fit 0005;", 899, 1);
        badBook(c, blanks(395) + "day 060;", 400, 1);
        badBook(c, blanks(395) + "day 061;", 399, 2);
        badSentence(c, blanks(199) + "bare", 200, 1);
        badSentence(c, blanks(199) + "barefoot", 199, 1);
        badSentence(c, blanks(195) + "has ra", 199, 3);
    }

    @Says("2 a NUMBER that is not as told (at it);")
    static void p05_fault2AtTheNumber(Checks c) {
        bad(c, "fit   6;", 6, 2);
        bad(c, "person a 1\n21 3;", 11, 2);
        badBook(c, "day  0;", 5, 2);
        badBook(c, "a goes 1  21;", 10, 2);
    }

    @Says("3 a NAME told twice,")
    static void p05_fault3NameToldTwice(Checks c) {
        bad(c, A + "person  a", 23, 3);
        bad(c, A + "ring  a 99", 21, 3);
    }

    @Says("a NAME told twice, not told,")
    static void p05_fault3NameNotTold(Checks c) {
        bad(c, A + "ring r 5 b a 1;", 24, 3);
        bad(c, A + "ring r 5 a b 1;", 26, 3);
        bad(c, "ring r 5 a a 1;" + A, 9, 3);
        badBook(c, "q goes 1 1;", 0, 3);
        badBook(c, "a hands q b;", 8, 3);
        badBook(c, "a hands r q;", 10, 3);
        badBook(c, "a wears q;", 8, 3);
        badBook(c, "a finds q;", 8, 3);
        badSentence(c, "has q", 4, 3);
        badSentence(c, "by q", 3, 3);
    }

    @Says("not told, or of another sort,")
    static void p05_fault3NameOfAnotherSort(Checks c) {
        bad(c, A + "ring r 5 a a 1;ring s 5 r a 1;", 39, 3);
        bad(c, A + "ring r 5 a a 1;ring s 5 a r 1;", 41, 3);
        badBook(c, "r goes 1 1;", 0, 3);
        badBook(c, "a hands b b;", 8, 3);
        badBook(c, "a hands r s;", 10, 3);
        badBook(c, "a wears b;", 8, 3);
        badBook(c, "a finds a;", 8, 3);
        badSentence(c, "has a", 4, 3);
        badSentence(c, "by r", 3, 3);
    }

    @Says("'fit', 'walk', 'jingle' told again (at the WORD);")
    static void p05_fault3ToldAgain(Checks c) {
        bad(c, "fit 1; fit", 7, 3);
        bad(c, "walk 1; walk ?", 8, 3);
        bad(c, "jingle 2; jingle 99;", 10, 3);
    }

    @Says("4 one more than there may be of a sort,")
    static void p05_fault4AtTheLinesFirstWord(Checks c) {
        bad(c, persons(7) + " person", 106, 4);
        bad(c, persons(7) + "person a 0 0 5;", 105, 4);
        bad(c, A + rings(7) + "\nring", 121, 4);
        bad(c, A + rings(7) + "ring k 99", 120, 4);
    }

    // a BOOK

    @Says("A BOOK is a text of at most 400 bytes:")
    static void p34_bookOf400Bytes(Checks c) {
        goodBook(c, blanks(394) + "day 1;");
        goodBook(c, "day 1;" + blanks(394));
        badBook(c, blanks(395) + "day 1;", 400, 1);
        badBook(c, "day 1;" + blanks(395), 400, 1);
    }

    @Says("400 bytes: { LINE ; }, 40 at most:")
    static void p34_bookOf40Lines(Checks c) {
        RingKeepers x = Checks.on(TWO);
        c.due("40", Checks.book(x, 0, "day 1;".repeat(40)), -1);
        c.due("all judged", x.told(1), 40);
        badBook(c, "day 1;".repeat(41), 240, 4);
        goodBook(c, "");
        badBook(c, ";", 0, 1);
        badBook(c, "day 1", 5, 1);
        badBook(c, "day 1;;", 6, 1);
    }

    @Says("a 41st LINE of a BOOK (at the LINE's first WORD),")
    static void p34_fault4AtThe41stLine(Checks c) {
        String forty = "day 1;".repeat(40);
        badBook(c, forty + " day", 241, 4);
        badBook(c, forty + "day 99;", 240, 4);
        badBook(c, forty + "a", 240, 4);
        badBook(c, forty + "b q", 240, 4);
        badBook(c, forty + "r", 240, 3);
        badBook(c, forty + ";", 240, 1);
    }

    @Says("PERSON ( 'goes' X Y (0 to 20 each)")
    static void p34_goesTo0To20Each(Checks c) {
        goodBook(c, "a goes 0 0;");
        goodBook(c, "a goes 20 20;");
        badBook(c, "a goes 21 0;", 7, 2);
        badBook(c, "a goes 0 21;", 9, 2);
        badBook(c, "a goes;", 6, 1);
        badBook(c, "a goes 1;", 8, 1);
        badBook(c, "a goes 1 2 3;", 11, 1);
        badBook(c, "goes 1 1;", 0, 1);
    }

    @Says("'hands' RING PERSON |")
    static void p34_handsARingToAPerson(Checks c) {
        goodBook(c, "b hands r a;");
        badBook(c, "b hands;", 7, 1);
        badBook(c, "b hands r;", 9, 1);
        badBook(c, "b hands 1 a;", 8, 1);
        badBook(c, "b hands r 1;", 10, 1);
        badBook(c, "b hands r day;", 10, 1);
        badBook(c, "b hands r a a;", 12, 1);
    }

    @Says("'wears' RING |")
    static void p34_wearsARing(Checks c) {
        goodBook(c, "b wears r;");
        badBook(c, "b wears;", 7, 1);
        badBook(c, "b wears 1;", 8, 1);
        badBook(c, "b wears not;", 8, 1);
        badBook(c, "b wears r s;", 10, 1);
    }

    @Says("'doffs' |")
    static void p34_doffsAlone(Checks c) {
        goodBook(c, "b doffs;");
        badBook(c, "b doffs r;", 8, 1);
        badBook(c, "doffs;", 0, 1);
    }

    @Says("'finds' RING )")
    static void p34_findsARing(Checks c) {
        goodBook(c, "b finds r;");
        badBook(c, "b finds;", 7, 1);
        badBook(c, "b finds 1;", 8, 1);
        badBook(c, "b finds or;", 8, 1);
        badBook(c, "b finds r s;", 10, 1);
    }

    @Says("| 'day' N (1 to 60).")
    static void p34_daysAre1To60(Checks c) {
        goodBook(c, "day 1;");
        goodBook(c, "day 60;");
        badBook(c, "day 0;", 4, 2);
        badBook(c, "day 61;", 4, 2);
        badBook(c, "day;", 3, 1);
        badBook(c, "day 1 1;", 6, 1);
        badBook(c, "a day 1;", 2, 1);
        badBook(c, "day a;", 4, 1);
    }

    // a SENTENCE

    @Says("A SENTENCE is a text of at most 200 bytes:")
    static void p36_sentenceOf200Bytes(Checks c) {
        goodSentence(c, blanks(196) + "bare", 1);
        goodSentence(c, "bare" + blanks(196), 1);
        badSentence(c, blanks(197) + "bare", 200, 1);
        badSentence(c, "bare" + blanks(197), 200, 1);
    }

    @Says("COND: ALL { 'or' ALL }.")
    static void p36_orStandsBetweenTwo(Checks c) {
        goodSentence(c, "bare or bare or bare", 3);
        badSentence(c, "or bare", 0, 1);
        badSentence(c, "bare or", 7, 1);
        badSentence(c, "bare or or bare", 8, 1);
        badSentence(c, "bare or and bare", 8, 1);
    }

    @Says("ALL: ONE { 'and' ONE }.")
    static void p36_andStandsBetweenTwo(Checks c) {
        goodSentence(c, "bare and bare and bare", 3);
        badSentence(c, "and bare", 0, 1);
        badSentence(c, "bare and", 8, 1);
        badSentence(c, "bare and or bare", 9, 1);
        badSentence(c, "bare bare", 5, 1);
    }

    @Says("ONE: 'not' ONE | ( COND ) |")
    static void p36_notAndBrackets(Checks c) {
        goodSentence(c, "not not bare", 3);
        goodSentence(c, "not(bare or bare)", 4);
        badSentence(c, "not", 3, 1);
        badSentence(c, "not or", 4, 1);
        badSentence(c, "()", 1, 1);
        badSentence(c, "(bare", 5, 1);
        badSentence(c, "(bare;", 5, 1);
        badSentence(c, "bare)", 4, 1);
        badSentence(c, "(bare))", 6, 1);
        badSentence(c, "(bare or)", 8, 1);
    }

    @Says("'has' RING")
    static void p36_hasARing(Checks c) {
        goodSentence(c, "has r", 1);
        badSentence(c, "has", 3, 1);
        badSentence(c, "has 1", 4, 1);
        badSentence(c, "has bare", 4, 1);
        badSentence(c, "has r s", 6, 1);
    }

    @Says("'by' PERSON")
    static void p36_byAPerson(Checks c) {
        goodSentence(c, "by a", 1);
        badSentence(c, "by", 2, 1);
        badSentence(c, "by 1", 3, 1);
        badSentence(c, "by by", 3, 1);
        badSentence(c, "by a b", 5, 1);
    }

    @Says("( 'keeps' | 'steps' | 'finger' | 'number' ) SIGN NUMBER")
    static void p36_signThenNumber(Checks c) {
        for (String word : "keeps steps finger number".split(" ")) {
            int n = word.length();
            goodSentence(c, word + "<0", 1);
            goodSentence(c, word + "=999", 1);
            goodSentence(c, word + ">000", 1);
            badSentence(c, word, n, 1);
            badSentence(c, word + " 1", n + 1, 1);
            badSentence(c, word + "=", n + 1, 1);
            badSentence(c, word + "=a", n + 1, 1);
            badSentence(c, word + "=1000", n + 1, 1);
            badSentence(c, word + "=1 1", n + 3, 1);
        }
        badSentence(c, "bare=1", 4, 1);
    }

    @Says("SIGN: < = >.")
    static void p36_signsAreThree(Checks c) {
        badSentence(c, "keeps<=1", 6, 1);
        badSentence(c, "keeps==1", 6, 1);
        badSentence(c, "keeps(1", 5, 1);
        badSentence(c, "keeps;1", 5, 1);
        badSentence(c, "keeps!1", 5, 1);
    }

    @Says("20 ONES,")
    static void p36_twentyOnes(Checks c) {
        goodSentence(c, "bare" + " or bare".repeat(19), 20);
        goodSentence(c, "bare" + " and bare".repeat(19), 20);
        goodSentence(c, "(not bare)" + " or bare".repeat(17), 20);
        badSentence(c, "bare" + " or bare".repeat(20), 160, 4);
    }

    @Says("a 21st ONE,")
    static void p36_fault4AtThe21stOne(Checks c) {
        String nineteen = "bare" + " or bare".repeat(18);
        badSentence(c, nineteen + " or not bare", 156, 4);
        badSentence(c, nineteen + " or (bare", 153, 4);
        badSentence(c, nineteen + " or bare or  has", 161, 4);
        badSentence(c, nineteen + " or bare and (", 161, 4);
        badSentence(c, nineteen + " or bare or", 159, 1);
    }

    @Says("20 ONES, 8 within one another.")
    static void p36_eightWithinOneAnother(Checks c) {
        goodSentence(c, "not not not not not not not bare", 8);
        badSentence(c, "not not not not not not not not bare", 32, 4);
        goodSentence(c, "(((((((bare)))))))", 8);
        badSentence(c, "((((((((bare))))))))", 8, 4);
        goodSentence(c, "(not(not(not(bare or bare)and bare)))or(bare)", 12);
        goodSentence(c, "(((((((bare)or bare)and bare))))) or ((((((bare))))))", 17);
    }

    @Says("a ninth within (at its first TOKEN).")
    static void p36_fault4AtTheNinthWithin(Checks c) {
        badSentence(c, "(((((((( bare", 9, 4);
        badSentence(c, "(((((((((", 8, 4);
        badSentence(c, "((((((((not", 8, 4);
        badSentence(c, "((((((((keeps ?", 8, 4);
        badSentence(c, "(((((((not has q", 11, 4);
        badSentence(c, "((((((((", 8, 1);
    }
}
