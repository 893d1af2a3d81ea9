import java.util.NoSuchElementException;

/** An island of persons and of rings that somebody keeps for somebody else; README.md says how to use it. */
public final class RingKeepers {
    public static final int NONE = -1;

    private static final int MOST = 7;
    private static final int SIDE = 20;
    private static final int ISLAND_BYTES = 900;
    private static final int BOOK_BYTES = 400;
    private static final int SENTENCE_BYTES = 200;
    private static final int PLACES = 2;
    private static final int MOST_DAYS = 60;
    private static final int MOST_SEEDS = 30;
    private static final int ODDS_DAYS = 20;
    private static final int NO_LIVES = -1000;

    private final Tape tape = new Tape();
    private final Reader reader = new Reader(tape);
    private final Island land = new Island();
    private final Island draft = new Island();
    private final State state = new State(land);
    private final State before = new State(land);
    private final State trial = new State(land);
    private final Past past = new Past(land);
    private final Sentence saying = new Sentence();
    private final Sentence sayingDraft = new Sentence();
    private final Book lines = new Book();
    private final Plans plans = new Plans();
    private final Fitting fitting = new Fitting();
    private final Note letter = new Note();
    private final Island[] keptLands = new Island[PLACES];
    private final State[] keptStates = new State[PLACES];
    private final Sentence[] keptSayings = new Sentence[PLACES];
    private final boolean[] isKept = new boolean[PLACES];
    private int faultKind;

    public RingKeepers() {
        for (int k = 0; k < PLACES; k++) {
            keptLands[k] = new Island();
            keptStates[k] = new State(land);
            keptSayings[k] = new Sentence();
        }
    }

    public int feed(int a, int b, int c, int d, int e) {
        if (!tape.hasRoom()) {
            return NONE;
        }
        tape.add(a);
        tape.add(b);
        tape.add(c);
        tape.add(d);
        tape.add(e);
        return tape.length;
    }

    public boolean end(int n) {
        return tape.cut(n);
    }

    public int island() {
        reader.open(ISLAND_BYTES);
        boolean sound = draft.readFrom(reader);
        tape.clear();
        faultKind = reader.faultKind;
        if (!sound) {
            return -1 - reader.faultAt;
        }
        land.copyFrom(draft);
        state.begin();
        saying.clear();
        // acts on another ISLAND have nothing here that they could be undone on
        past.clear();
        return land.lines;
    }

    public int fault() {
        return faultKind;
    }

    public int person(int p, int what) throws NoSuchElementException {
        if (!land.isPerson(p)) {
            throw new NoSuchElementException();
        }
        switch (what) {
            case 0: return state.x[p];
            case 1: return state.y[p];
            case 2: return land.finger[p];
            case 3: return state.steps[p];
            case 4: return state.keptBy(p);
            case 5: return state.wornBy(p);
            case 6: return land.ownedBy(p);
            default: throw new NoSuchElementException();
        }
    }

    public int ring(int r, int what) throws NoSuchElementException {
        if (!land.isRing(r)) {
            throw new NoSuchElementException();
        }
        switch (what) {
            case 0: return land.size[r];
            case 1: return land.owner[r];
            case 2: return state.holder[r];
            case 3: return land.due[r];
            case 4: return state.how[r];
            case 5: return state.outcome[r];
            case 6: return state.ringX(r);
            case 7: return state.ringY(r);
            default: throw new NoSuchElementException();
        }
    }

    public int fits(int r, int p) {
        if (!land.isRing(r) || !land.isPerson(p)) {
            return NONE;
        }
        return land.feel(land.size[r], p);
    }

    public int now(int what) {
        switch (what) {
            case 0: return state.day;
            case 1: return state.ringsThatAre(State.WORN);
            case 2: return state.ringsThatAre(State.LOST);
            case 3: return state.ringsThatWere(State.HAD);
            case 4: return state.ringsThatWere(State.MISSED);
            case 5: return state.handed;
            case 6: return state.gone;
            default: return NONE;
        }
    }

    public int go(int p, int x, int y) {
        if (!land.isPerson(p) || !isPlace(x, y)) {
            return NONE;
        }
        before.copyFrom(state);
        return keptIfDone(state.walkTo(p, x, y));
    }

    public int hand(int p, int r, int q) {
        if (!land.isPerson(p) || !land.isRing(r) || !land.isPerson(q)) {
            return NONE;
        }
        before.copyFrom(state);
        return keptIfDone(state.passOn(p, r, q));
    }

    public int wear(int p, int r) {
        if (!land.isPerson(p) || !land.isRing(r)) {
            return NONE;
        }
        before.copyFrom(state);
        return keptIfDone(state.putOn(p, r));
    }

    public int doff(int p) {
        if (!land.isPerson(p)) {
            return NONE;
        }
        before.copyFrom(state);
        return keptIfDone(state.takeOff(p));
    }

    public int find(int p, int r) {
        if (!land.isPerson(p) || !land.isRing(r)) {
            return NONE;
        }
        before.copyFrom(state);
        return keptIfDone(state.pickUp(p, r));
    }

    public int days(int n) {
        if (n < 1 || n > MOST_DAYS) {
            return NONE;
        }
        before.copyFrom(state);
        return keptIfSome(state.passDays(n));
    }

    public int undo() {
        if (past.size == 0) {
            return NONE;
        }
        past.takeBack(state);
        return past.size;
    }

    public int reach(int r) {
        return land.isRing(r) ? state.daysTillMet(r) : NONE;
    }

    public int inTime() {
        int bits = 0;
        for (int r = 0; r < land.rings; r++) {
            if (state.outcome[r] == State.NOT_YET && state.day + state.daysTillMet(r) <= land.due[r]) {
                bits |= 1 << r;
            }
        }
        return bits;
    }

    public int tour(int p) {
        return land.isPerson(p) ? plans.planTour(state, p) : NONE;
    }

    public int tourAt(int k) {
        return k < 0 || k >= plans.stops ? NONE : plans.stop[k];
    }

    public int keepers() {
        return plans.planKeepers(state);
    }

    public int keeperOf(int r) {
        return r < 0 || r >= MOST ? NONE : plans.keeper[r];
    }

    public int sizes() {
        int many = fitting.readTries(land, tape);
        tape.clear();
        return many;
    }

    public int sizeLeast() {
        return fitting.least;
    }

    public int knuckle() {
        return fitting.nextPerson;
    }

    public int ways() {
        return fitting.waysToGive(land);
    }

    public int likely(int r) {
        return land.isRing(r) ? fitting.likeliest(land, r) : NONE;
    }

    public int chain(int p) {
        return land.isPerson(p) ? Integer.bitCount(plans.chainFrom(state, p)) : NONE;
    }

    public int closed(int p) {
        if (!land.isPerson(p)) {
            return NONE;
        }
        plans.chainFrom(state, p);
        return plans.chainNext == p ? 1 : 0;
    }

    public int note(int p) {
        if (!land.isPerson(p)) {
            return NONE;
        }
        letter.write(state, p);
        return letter.length;
    }

    public int byteAt(int i) {
        return i < 0 || i >= letter.length ? NONE : letter.bytes[i];
    }

    public int drawn(int n, int seed) {
        if (n < 1 || n > MOST_DAYS) {
            return NONE;
        }
        before.copyFrom(state);
        return keptIfSome(state.drawDays(n, seed));
    }

    public int odds(int r, int n, int seed) {
        if (!land.isRing(r) || n < 1 || n > MOST_SEEDS) {
            return NONE;
        }
        int many = 0;
        for (int i = 0; i < n; i++) {
            trial.copyFrom(state);
            trial.drawDays(ODDS_DAYS, seed + i);
            if (trial.isWithOwner(r)) {
                many++;
            }
        }
        return many;
    }

    public int book(int lives) {
        if (lives != 0 && lives != 1) {
            return NO_LIVES;
        }
        reader.open(BOOK_BYTES);
        boolean sound = lines.readFrom(reader, land);
        tape.clear();
        faultKind = reader.faultKind;
        if (!sound) {
            return -2 - reader.faultAt;
        }
        trial.copyFrom(state);
        int wrong = lines.judge(trial);
        if (lives == 1 && lines.good > 0) {
            past.push(state);
            state.copyFrom(trial);
        }
        return wrong;
    }

    public int told(int what) {
        if (!lines.isJudged) {
            return NONE;
        }
        switch (what) {
            case 0: return lines.why;
            case 1: return lines.good;
            case 2: return lines.dayThen;
            case 3: return lines.lostThen;
            default: return NONE;
        }
    }

    public int sentence() {
        reader.open(SENTENCE_BYTES);
        boolean sound = sayingDraft.readFrom(reader, land);
        tape.clear();
        faultKind = reader.faultKind;
        if (!sound) {
            return -1 - reader.faultAt;
        }
        saying.copyFrom(sayingDraft);
        return saying.ones;
    }

    public int said(int k) {
        if (saying.ones == 0 || k < NONE) {
            return NONE;
        }
        int many = 0;
        for (int p = 0; p < land.persons; p++) {
            if (saying.holdsOf(state, p)) {
                if (many == k) {
                    return p;
                }
                many++;
            }
        }
        return k == NONE ? many : NONE;
    }

    public boolean image(int k) {
        if (k < 0 || k >= PLACES) {
            return false;
        }
        keptLands[k].copyFrom(land);
        keptStates[k].copyFrom(state);
        keptSayings[k].copyFrom(saying);
        isKept[k] = true;
        return true;
    }

    public boolean restore(int k) {
        if (k < 0 || k >= PLACES || !isKept[k]) {
            return false;
        }
        land.copyFrom(keptLands[k]);
        state.copyFrom(keptStates[k]);
        saying.copyFrom(keptSayings[k]);
        past.clear();
        return true;
    }

    public int count(int what) {
        switch (what) {
            case 0: return land.persons;
            case 1: return land.rings;
            case 2: return land.fit;
            case 3: return land.walk;
            case 4: return land.jingle;
            case 5: return tape.length;
            default: return NONE;
        }
    }

    private static boolean isPlace(int x, int y) {
        return x >= 0 && x <= SIDE && y >= 0 && y <= SIDE;
    }

    private int keptIfDone(int why) {
        if (why == 0) {
            past.push(before);
        }
        return why;
    }

    private int keptIfSome(int went) {
        if (went > 0) {
            past.push(before);
        }
        return went;
    }

    /** The bytes that were fed and not yet used. */
    private static final class Tape {
        private static final int ROOM = 940;
        private static final int FEED = 20;

        private final byte[] bytes = new byte[ROOM];
        private int length;

        private boolean hasRoom() {
            return length + FEED <= ROOM;
        }

        private void add(int number) {
            for (int shift = 24; shift >= 0 && length < ROOM; shift -= 8) {
                bytes[length] = (byte) (number >>> shift);
                length++;
            }
        }

        private boolean cut(int n) {
            if (n < 0 || n > length) {
                return false;
            }
            length = n;
            return true;
        }

        private void clear() {
            length = 0;
        }

        private int at(int i) {
            return i < 0 || i >= length ? NONE : bytes[i] & 255;
        }
    }

    /** The words that no NAME may be; OTHER stands for every word that may. */
    private enum Word {
        OTHER(""),
        PERSON("person"), RING("ring"), FIT("fit"), WALK("walk"), JINGLE("jingle"),
        GOES("goes"), HANDS("hands"), WEARS("wears"), DOFFS("doffs"), FINDS("finds"), DAY("day"),
        OR("or"), AND("and"), NOT("not"), RINGED("ringed"), HAPPY("happy"), BARE("bare"), HAS("has"), BY("by"),
        KEEPS("keeps"), STEPS("steps"), FINGER("finger"), NUMBER("number");

        private static final Word[] ALL = values();

        private final long code;

        Word(String text) {
            long sum = 0;
            for (int i = 0; i < text.length(); i++) {
                sum = sum * 32 + (text.charAt(i) - 'a' + 1);
            }
            code = sum;
        }

        private static Word coded(long code) {
            for (int i = 0; i < ALL.length; i++) {
                if (ALL[i].code == code) {
                    return ALL[i];
                }
            }
            return OTHER;
        }
    }

    /** The TOKENS of the tape, one after the other, and the first FAULT among them. */
    private static final class Reader {
        private static final int BAD = 0;
        private static final int END = 1;
        private static final int NAME = 2;
        private static final int KEY = 3;
        private static final int NUMBER = 4;
        private static final int SIGN = 5;

        private static final int CANNOT_COME = 1;
        private static final int NOT_AS_TOLD = 2;
        private static final int WRONG_NAME = 3;
        private static final int ONE_MORE = 4;

        // each byte a TOKEN of its own, and the end
        private static final int ROOM = Tape.ROOM + 1;

        private final Tape tape;
        private final int[] kinds = new int[ROOM];
        private final int[] starts = new int[ROOM];
        private final int[] values = new int[ROOM];
        // a WORD's letters, five bits each: seven of them are no more than 35
        private final long[] names = new long[ROOM];
        private final Word[] keys = new Word[ROOM];
        private int size;
        private int at;
        private int most;
        private int taken;
        private int faultKind;
        private int faultAt;

        private Reader(Tape tape) {
            this.tape = tape;
            for (int i = 0; i < ROOM; i++) {
                keys[i] = Word.OTHER;
            }
        }

        private void open(int mostBytes) {
            most = mostBytes;
            at = 0;
            size = 0;
            faultKind = 0;
            faultAt = 0;
            int i = 0;
            boolean goesOn = true;
            while (goesOn && size < ROOM) {
                i = scan(i);
                // behind these two no TOKEN is ever asked for
                goesOn = kinds[size] != BAD && kinds[size] != END;
                size++;
            }
        }

        /** Reads the next TOKEN, at this byte or behind blanks: where it ends. */
        private int scan(int from) {
            int i = from;
            while (i < tape.length && isBlank(tape.at(i))) {
                i++;
            }
            starts[size] = i;
            keys[size] = Word.OTHER;
            if (tape.length > most && i >= most) {
                starts[size] = most;
                kinds[size] = BAD;
            } else if (i >= tape.length) {
                kinds[size] = END;
            } else if (isLetter(tape.at(i)) || isDigit(tape.at(i))) {
                i = scanRun(i);
            } else {
                values[size] = tape.at(i);
                kinds[size] = SIGN;
                i++;
            }
            return i;
        }

        private int scanRun(int from) {
            int letters = 0;
            int digits = 0;
            long name = 0;
            int value = 0;
            for (int i = from; i < tape.length; i++) {
                int c = tape.at(i);
                if (isLetter(c)) {
                    letters++;
                    name = name * 32 + (c - 'a' + 1);
                } else if (isDigit(c)) {
                    digits++;
                    value = value * 10 + (c - '0');
                } else {
                    break;
                }
            }
            names[size] = name;
            values[size] = value;
            if (digits == 0 && letters <= 7) {
                keys[size] = Word.coded(name);
                kinds[size] = keys[size] == Word.OTHER ? NAME : KEY;
            } else {
                kinds[size] = letters == 0 && digits <= 3 ? NUMBER : BAD;
            }
            return from + letters + digits;
        }

        private static boolean isBlank(int c) {
            return c == 32 || c == 10;
        }

        private static boolean isLetter(int c) {
            return c >= 'a' && c <= 'z';
        }

        private static boolean isDigit(int c) {
            return c >= '0' && c <= '9';
        }

        private boolean isAt(int kind) {
            return kinds[at] == kind;
        }

        private boolean isAtSign(char c) {
            return kinds[at] == SIGN && values[at] == c;
        }

        private Word key() {
            return keys[at];
        }

        private long name() {
            return names[at];
        }

        private void advance() {
            if (at + 1 < size) {
                at++;
            }
        }

        private boolean fail(int kind) {
            faultKind = kind;
            faultAt = starts[at];
            return false;
        }

        private boolean takeSign(char c) {
            if (!isAtSign(c)) {
                return fail(CANNOT_COME);
            }
            advance();
            return true;
        }

        private boolean takeNumber(int least, int greatest) {
            if (kinds[at] != NUMBER) {
                return fail(CANNOT_COME);
            }
            if (values[at] < least || values[at] > greatest) {
                return fail(NOT_AS_TOLD);
            }
            taken = values[at];
            advance();
            return true;
        }

        /** A NAME, and which of its sort it is told for: NONE, if it is not. */
        private boolean takeNamed(int number) {
            if (kinds[at] != NAME) {
                return fail(CANNOT_COME);
            }
            if (number == NONE) {
                return fail(WRONG_NAME);
            }
            taken = number;
            advance();
            return true;
        }
    }

    /** What an ISLAND's text tells. */
    private static final class Island {
        private static final int MOST_LINES = 2 * MOST + 3;
        private static final int LAST_DUE = 300;

        private int persons;
        private int rings;
        private final long[] personName = new long[MOST];
        private final int[] startX = new int[MOST];
        private final int[] startY = new int[MOST];
        private final int[] finger = new int[MOST];
        private final long[] ringName = new long[MOST];
        private final int[] size = new int[MOST];
        private final int[] owner = new int[MOST];
        private final int[] keeper = new int[MOST];
        private final int[] due = new int[MOST];
        private int fit = 1;
        private int walk = 5;
        private int jingle = 4;
        private int lines;
        private boolean isFitTold;
        private boolean isWalkTold;
        private boolean isJingleTold;

        private boolean isPerson(int p) {
            return p >= 0 && p < persons;
        }

        private boolean isRing(int r) {
            return r >= 0 && r < rings;
        }

        private int personNamed(long name) {
            for (int p = 0; p < persons; p++) {
                if (personName[p] == name) {
                    return p;
                }
            }
            return NONE;
        }

        private int ringNamed(long name) {
            for (int r = 0; r < rings; r++) {
                if (ringName[r] == name) {
                    return r;
                }
            }
            return NONE;
        }

        private int ownedBy(int p) {
            int bits = 0;
            for (int r = 0; r < rings; r++) {
                if (owner[r] == p) {
                    bits |= 1 << r;
                }
            }
            return bits;
        }

        /** How a ring of this size is on a person: 0 TIGHT, 1 it FITS, 2 LOOSE. */
        private int feel(int ringSize, int p) {
            int more = ringSize - finger[p];
            if (more < -fit) {
                return 0;
            }
            return more > fit ? 2 : 1;
        }

        private void copyFrom(Island other) {
            persons = other.persons;
            rings = other.rings;
            fit = other.fit;
            walk = other.walk;
            jingle = other.jingle;
            lines = other.lines;
            System.arraycopy(other.personName, 0, personName, 0, MOST);
            System.arraycopy(other.startX, 0, startX, 0, MOST);
            System.arraycopy(other.startY, 0, startY, 0, MOST);
            System.arraycopy(other.finger, 0, finger, 0, MOST);
            System.arraycopy(other.ringName, 0, ringName, 0, MOST);
            System.arraycopy(other.size, 0, size, 0, MOST);
            System.arraycopy(other.owner, 0, owner, 0, MOST);
            System.arraycopy(other.keeper, 0, keeper, 0, MOST);
            System.arraycopy(other.due, 0, due, 0, MOST);
        }

        private void clear() {
            persons = 0;
            rings = 0;
            fit = 1;
            walk = 5;
            jingle = 4;
            lines = 0;
            isFitTold = false;
            isWalkTold = false;
            isJingleTold = false;
        }

        private boolean readFrom(Reader in) {
            clear();
            while (lines <= MOST_LINES) {
                if (in.isAt(Reader.END)) {
                    return true;
                }
                if (!readLine(in) || !in.takeSign(';')) {
                    return false;
                }
                lines++;
            }
            return in.fail(Reader.ONE_MORE);
        }

        private boolean readLine(Reader in) {
            switch (in.key()) {
                case PERSON: return readPerson(in);
                case RING: return readRing(in);
                case FIT: return readFit(in);
                case WALK: return readWalk(in);
                case JINGLE: return readJingle(in);
                default: return in.fail(Reader.CANNOT_COME);
            }
        }

        private boolean readPerson(Reader in) {
            int p = persons;
            if (p >= MOST) {
                return in.fail(Reader.ONE_MORE);
            }
            in.advance();
            personName[p] = in.name();
            if (!takeNewName(in) || !in.takeNumber(0, SIDE)) {
                return false;
            }
            startX[p] = in.taken;
            if (!in.takeNumber(0, SIDE)) {
                return false;
            }
            startY[p] = in.taken;
            if (!in.takeNumber(1, 20)) {
                return false;
            }
            finger[p] = in.taken;
            persons++;
            return true;
        }

        private boolean readRing(Reader in) {
            int r = rings;
            if (r >= MOST) {
                return in.fail(Reader.ONE_MORE);
            }
            in.advance();
            ringName[r] = in.name();
            if (!takeNewName(in) || !in.takeNumber(1, 20)) {
                return false;
            }
            size[r] = in.taken;
            if (!in.takeNamed(personNamed(in.name()))) {
                return false;
            }
            owner[r] = in.taken;
            if (!in.takeNamed(personNamed(in.name()))) {
                return false;
            }
            keeper[r] = in.taken;
            if (!in.takeNumber(0, LAST_DUE)) {
                return false;
            }
            due[r] = in.taken;
            rings++;
            return true;
        }

        private boolean takeNewName(Reader in) {
            if (!in.isAt(Reader.NAME)) {
                return in.fail(Reader.CANNOT_COME);
            }
            if (personNamed(in.name()) != NONE || ringNamed(in.name()) != NONE) {
                return in.fail(Reader.WRONG_NAME);
            }
            in.advance();
            return true;
        }

        private boolean readFit(Reader in) {
            if (!takeOnce(in, isFitTold, 0, 5)) {
                return false;
            }
            isFitTold = true;
            fit = in.taken;
            return true;
        }

        private boolean readWalk(Reader in) {
            if (!takeOnce(in, isWalkTold, 1, 20)) {
                return false;
            }
            isWalkTold = true;
            walk = in.taken;
            return true;
        }

        private boolean readJingle(Reader in) {
            if (!takeOnce(in, isJingleTold, 2, 9)) {
                return false;
            }
            isJingleTold = true;
            jingle = in.taken;
            return true;
        }

        private static boolean takeOnce(Reader in, boolean isTold, int least, int greatest) {
            if (isTold) {
                return in.fail(Reader.WRONG_NAME);
            }
            in.advance();
            return in.takeNumber(least, greatest);
        }
    }

    /** What days and acts change on an ISLAND. */
    private static final class State {
        private static final int KEPT = 0;
        private static final int WORN = 1;
        private static final int LOST = 2;

        private static final int NOT_YET = 0;
        private static final int HAD = 1;
        private static final int MISSED = 2;

        private static final int ALL_OVER = 400;

        private final Island land;
        private final int[] x = new int[MOST];
        private final int[] y = new int[MOST];
        private final int[] steps = new int[MOST];
        private final int[] holder = new int[MOST];
        private final int[] how = new int[MOST];
        private final int[] lostX = new int[MOST];
        private final int[] lostY = new int[MOST];
        private final int[] outcome = new int[MOST];
        private int day;
        private int handed;
        private int gone;
        private int seed;

        private State(Island land) {
            this.land = land;
        }

        private void begin() {
            for (int p = 0; p < land.persons; p++) {
                x[p] = land.startX[p];
                y[p] = land.startY[p];
            }
            for (int r = 0; r < land.rings; r++) {
                holder[r] = land.keeper[r];
                how[r] = KEPT;
                outcome[r] = NOT_YET;
            }
            day = 0;
            handed = 0;
            gone = 0;
            rest();
        }

        private void copyFrom(State other) {
            System.arraycopy(other.x, 0, x, 0, MOST);
            System.arraycopy(other.y, 0, y, 0, MOST);
            System.arraycopy(other.steps, 0, steps, 0, MOST);
            System.arraycopy(other.holder, 0, holder, 0, MOST);
            System.arraycopy(other.how, 0, how, 0, MOST);
            System.arraycopy(other.lostX, 0, lostX, 0, MOST);
            System.arraycopy(other.lostY, 0, lostY, 0, MOST);
            System.arraycopy(other.outcome, 0, outcome, 0, MOST);
            day = other.day;
            handed = other.handed;
            gone = other.gone;
        }

        private void rest() {
            for (int p = 0; p < land.persons; p++) {
                steps[p] = land.walk;
            }
        }

        private int keptBy(int p) {
            int bits = 0;
            for (int r = 0; r < land.rings; r++) {
                if (isKeptBy(r, p)) {
                    bits |= 1 << r;
                }
            }
            return bits;
        }

        private boolean isKeptBy(int r, int p) {
            return how[r] == KEPT && holder[r] == p;
        }

        private boolean hasRing(int p, int r) {
            return land.isRing(r) && holder[r] == p;
        }

        private boolean isWithOwner(int r) {
            return holder[r] == land.owner[r];
        }

        private boolean isBy(int p, int q) {
            return land.isPerson(q) && x[p] == x[q] && y[p] == y[q];
        }

        private int wornBy(int p) {
            for (int r = 0; r < land.rings; r++) {
                if (how[r] == WORN && holder[r] == p) {
                    return r;
                }
            }
            return NONE;
        }

        private int ringsThatAre(int wanted) {
            return ringsWith(how, wanted);
        }

        private int ringsThatWere(int wanted) {
            return ringsWith(outcome, wanted);
        }

        private int ringsWith(int[] ofRings, int wanted) {
            int bits = 0;
            for (int r = 0; r < land.rings; r++) {
                if (ofRings[r] == wanted) {
                    bits |= 1 << r;
                }
            }
            return bits;
        }

        private int ringX(int r) {
            int p = holder[r];
            return land.isPerson(p) ? x[p] : lostX[r];
        }

        private int ringY(int r) {
            int p = holder[r];
            return land.isPerson(p) ? y[p] : lostY[r];
        }

        private int farTo(int p, int toX, int toY) {
            return Math.abs(x[p] - toX) + Math.abs(y[p] - toY);
        }

        private int farBetween(int p, int q) {
            return farTo(p, x[q], y[q]);
        }

        private int walkTo(int p, int toX, int toY) {
            int far = farTo(p, toX, toY);
            if (far == 0) {
                return 1;
            }
            if (far > steps[p]) {
                return 2;
            }
            x[p] = toX;
            y[p] = toY;
            steps[p] -= far;
            gone += far;
            return 0;
        }

        private int passOn(int p, int r, int q) {
            if (p == q) {
                return 1;
            }
            if (!isKeptBy(r, p)) {
                return 2;
            }
            if (!isBy(p, q)) {
                return 3;
            }
            holder[r] = q;
            handed++;
            return 0;
        }

        private int putOn(int p, int r) {
            if (!isKeptBy(r, p)) {
                return 1;
            }
            if (wornBy(p) != NONE) {
                return 2;
            }
            if (land.feel(land.size[r], p) != 1) {
                return 3;
            }
            how[r] = WORN;
            return 0;
        }

        private int takeOff(int p) {
            int r = wornBy(p);
            if (r == NONE) {
                return 1;
            }
            how[r] = KEPT;
            return 0;
        }

        private int pickUp(int p, int r) {
            if (how[r] != LOST) {
                return 1;
            }
            if (farTo(p, lostX[r], lostY[r]) != 0) {
                return 2;
            }
            how[r] = KEPT;
            holder[r] = p;
            return 0;
        }

        private int passDays(int n) {
            int went = 0;
            while (went < n && day < ALL_OVER) {
                passDay();
                went++;
            }
            return went;
        }

        private void passDay() {
            for (int r = 0; r < land.rings; r++) {
                if (land.due[r] == day) {
                    outcome[r] = isWithOwner(r) ? HAD : MISSED;
                }
            }
            for (int p = 0; p < land.persons; p++) {
                int bits = keptBy(p);
                if (Integer.bitCount(bits) >= land.jingle) {
                    loseGreatest(p, bits);
                }
            }
            day++;
            rest();
        }

        private void loseGreatest(int p, int bits) {
            for (int r = land.rings - 1; r >= 0; r--) {
                if ((bits >> r & 1) == 1) {
                    how[r] = LOST;
                    holder[r] = NONE;
                    lostX[r] = x[p];
                    lostY[r] = y[p];
                    return;
                }
            }
        }

        private int drawDays(int n, int firstSeed) {
            seed = firstSeed;
            int went = 0;
            while (went < n && day < ALL_OVER) {
                for (int p = 0; p < land.persons; p++) {
                    drawAct(p);
                }
                passDay();
                went++;
            }
            return went;
        }

        private int draw(int n) {
            seed = seed * 1103515245 + 12345;
            return n < 1 ? 0 : (seed >>> 8) % n;
        }

        private void drawAct(int p) {
            switch (draw(6)) {
                case 0: case 1:
                    int toX = draw(SIDE + 1);
                    int toY = draw(SIDE + 1);
                    walkTo(p, toX, toY);
                    break;
                case 2:
                    if (land.rings > 0) {
                        int r = draw(land.rings);
                        passOn(p, r, draw(land.persons));
                    }
                    break;
                case 3:
                    if (land.rings > 0) {
                        putOn(p, draw(land.rings));
                    }
                    break;
                case 4:
                    takeOff(p);
                    break;
                default:
                    break;
            }
        }

        private int daysTillMet(int r) {
            int p = land.owner[r];
            int far = farTo(p, ringX(r), ringY(r));
            int eachDay = how[r] == LOST ? land.walk : 2 * land.walk;
            return far == 0 || eachDay < 1 ? 0 : (far - 1) / eachDay;
        }
    }

    /** States ahead of the latest acts, the oldest first. */
    private static final class Past {
        private static final int KEEPS = 8;

        private final State[] kept = new State[KEEPS];
        private int size;

        private Past(Island land) {
            for (int i = 0; i < KEEPS; i++) {
                kept[i] = new State(land);
            }
        }

        private void clear() {
            size = 0;
        }

        private void push(State state) {
            if (size >= KEEPS) {
                dropOldest();
            }
            kept[size].copyFrom(state);
            size++;
        }

        private void dropOldest() {
            State oldest = kept[0];
            for (int i = 1; i < KEEPS; i++) {
                kept[i - 1] = kept[i];
            }
            kept[KEEPS - 1] = oldest;
            size = KEEPS - 1;
        }

        private void takeBack(State state) {
            if (size > 0) {
                size--;
                state.copyFrom(kept[size]);
            }
        }
    }

    /** The LINES of a BOOK, and what was found when they were judged. */
    private static final class Book {
        private static final int MOST_LINES = 40;

        // a LINE's act is what is added to why it is WRONG
        private static final int GO = 0;
        private static final int HAND = 10;
        private static final int WEAR = 20;
        private static final int DOFF = 30;
        private static final int FIND = 40;
        private static final int DAY = 50;

        private final int[] act = new int[MOST_LINES];
        private final int[] who = new int[MOST_LINES];
        private final int[] first = new int[MOST_LINES];
        private final int[] second = new int[MOST_LINES];
        private int size;
        private boolean isJudged;
        private int why;
        private int good;
        private int dayThen;
        private int lostThen;

        private boolean readFrom(Reader in, Island land) {
            size = 0;
            while (size < MOST_LINES) {
                if (in.isAt(Reader.END)) {
                    return true;
                }
                if (!takeWho(in, land) || !readAct(in, land) || !in.takeSign(';')) {
                    return false;
                }
                size++;
            }
            return in.isAt(Reader.END) || failBehindAll(in, land);
        }

        private boolean failBehindAll(Reader in, Island land) {
            boolean isPerson = in.isAt(Reader.NAME) && land.personNamed(in.name()) != NONE;
            if (isPerson || in.key() == Word.DAY) {
                return in.fail(Reader.ONE_MORE);
            }
            return in.fail(in.isAt(Reader.NAME) ? Reader.WRONG_NAME : Reader.CANNOT_COME);
        }

        /** The PERSON ahead of an act; ahead of 'day' there is none. */
        private boolean takeWho(Reader in, Island land) {
            who[size] = NONE;
            if (in.key() == Word.DAY) {
                return true;
            }
            if (!in.takeNamed(land.personNamed(in.name()))) {
                return false;
            }
            who[size] = in.taken;
            return true;
        }

        private boolean readAct(Reader in, Island land) {
            boolean isOfPerson = who[size] != NONE;
            Word word = in.key();
            if (word == Word.DAY && !isOfPerson) {
                return readNumbers(in, DAY, 1, MOST_DAYS);
            }
            switch (word) {
                case GOES: return readNumbers(in, GO, 0, SIDE);
                case HANDS: return readRingAct(in, HAND, land);
                case WEARS: return readRingAct(in, WEAR, land);
                case DOFFS: return readBare(in, DOFF);
                case FINDS: return readRingAct(in, FIND, land);
                default: return in.fail(Reader.CANNOT_COME);
            }
        }

        private boolean readBare(Reader in, int code) {
            act[size] = code;
            in.advance();
            return true;
        }

        private boolean readNumbers(Reader in, int code, int least, int greatest) {
            readBare(in, code);
            if (!in.takeNumber(least, greatest)) {
                return false;
            }
            first[size] = in.taken;
            if (code != GO) {
                return true;
            }
            if (!in.takeNumber(least, greatest)) {
                return false;
            }
            second[size] = in.taken;
            return true;
        }

        private boolean readRingAct(Reader in, int code, Island land) {
            readBare(in, code);
            if (!in.takeNamed(land.ringNamed(in.name()))) {
                return false;
            }
            first[size] = in.taken;
            if (code != HAND) {
                return true;
            }
            if (!in.takeNamed(land.personNamed(in.name()))) {
                return false;
            }
            second[size] = in.taken;
            return true;
        }

        /** Lives the LINES on the state as far as they are not WRONG: the one that is, or NONE. */
        private int judge(State state) {
            why = 0;
            good = 0;
            for (int line = 0; line < size && why == 0; line++) {
                int whyNot = live(state, line);
                if (whyNot == 0) {
                    good++;
                } else {
                    why = act[line] + whyNot;
                }
            }
            dayThen = state.day;
            lostThen = state.ringsThatAre(State.LOST);
            isJudged = true;
            return why == 0 ? NONE : good;
        }

        private int live(State state, int line) {
            int p = who[line];
            switch (act[line]) {
                case GO: return state.walkTo(p, first[line], second[line]);
                case HAND: return state.passOn(p, first[line], second[line]);
                case WEAR: return state.putOn(p, first[line]);
                case DOFF: return state.takeOff(p);
                case FIND: return state.pickUp(p, first[line]);
                default: return liveDays(state, first[line]);
            }
        }

        private static int liveDays(State state, int n) {
            if (n > State.ALL_OVER - state.day) {
                return 1;
            }
            state.passDays(n);
            return 0;
        }
    }

    /** A SENTENCE, its ONES behind what they are made of: 'not', 'and' and 'or' stand behind their parts. */
    private static final class Sentence {
        private static final int MOST_ONES = 20;
        private static final int MOST_WITHIN = 8;
        private static final int ROOM = 2 * MOST_ONES;

        private final Word[] word = new Word[ROOM];
        private final int[] sign = new int[ROOM];
        private final int[] number = new int[ROOM];
        private int size;
        private int ones;

        private Sentence() {
            for (int i = 0; i < ROOM; i++) {
                word[i] = Word.OTHER;
            }
        }

        private void clear() {
            size = 0;
            ones = 0;
        }

        private void copyFrom(Sentence other) {
            size = other.size;
            ones = other.ones;
            for (int i = 0; i < ROOM; i++) {
                word[i] = other.word[i];
            }
            System.arraycopy(other.sign, 0, sign, 0, ROOM);
            System.arraycopy(other.number, 0, number, 0, ROOM);
        }

        private void put(Word what, int itsSign, int itsNumber) {
            if (size < ROOM) {
                word[size] = what;
                sign[size] = itsSign;
                number[size] = itsNumber;
                size++;
            }
        }

        private boolean readFrom(Reader in, Island land) {
            clear();
            if (!readCond(in, land, 1)) {
                return false;
            }
            return in.isAt(Reader.END) || in.fail(Reader.CANNOT_COME);
        }

        private boolean readCond(Reader in, Island land, int depth) {
            if (!readAll(in, land, depth)) {
                return false;
            }
            for (int n = 0; n <= MOST_ONES && in.key() == Word.OR; n++) {
                in.advance();
                if (!readAll(in, land, depth)) {
                    return false;
                }
                put(Word.OR, 0, 0);
            }
            return true;
        }

        private boolean readAll(Reader in, Island land, int depth) {
            if (!readOne(in, land, depth)) {
                return false;
            }
            for (int n = 0; n <= MOST_ONES && in.key() == Word.AND; n++) {
                in.advance();
                if (!readOne(in, land, depth)) {
                    return false;
                }
                put(Word.AND, 0, 0);
            }
            return true;
        }

        private boolean readOne(Reader in, Island land, int depth) {
            boolean isBracket = in.isAtSign('(');
            if (!isBracket && !beginsOne(in.key())) {
                return in.fail(Reader.CANNOT_COME);
            }
            if (ones >= MOST_ONES || depth > MOST_WITHIN) {
                return in.fail(Reader.ONE_MORE);
            }
            ones++;
            Word what = in.key();
            in.advance();
            if (isBracket) {
                return readCond(in, land, depth + 1) && in.takeSign(')');
            }
            if (what == Word.NOT) {
                if (!readOne(in, land, depth + 1)) {
                    return false;
                }
                put(Word.NOT, 0, 0);
                return true;
            }
            return readPlain(in, land, what);
        }

        private static boolean beginsOne(Word what) {
            switch (what) {
                case NOT: case RINGED: case HAPPY: case BARE: case HAS: case BY:
                case KEEPS: case STEPS: case FINGER: case NUMBER:
                    return true;
                default:
                    return false;
            }
        }

        private boolean readPlain(Reader in, Island land, Word what) {
            switch (what) {
                case RINGED: case HAPPY: case BARE:
                    put(what, 0, 0);
                    return true;
                case HAS:
                    return in.takeNamed(land.ringNamed(in.name())) && putTaken(in, what, 0);
                case BY:
                    return in.takeNamed(land.personNamed(in.name())) && putTaken(in, what, 0);
                default:
                    char itsSign = signAt(in);
                    return in.takeSign(itsSign) && in.takeNumber(0, 999) && putTaken(in, what, itsSign);
            }
        }

        /** The SIGN that is there; without one the last, so that taking it is the FAULT. */
        private static char signAt(Reader in) {
            if (in.isAtSign('<')) {
                return '<';
            }
            return in.isAtSign('=') ? '=' : '>';
        }

        private boolean putTaken(Reader in, Word what, int itsSign) {
            put(what, itsSign, in.taken);
            return true;
        }

        /** Whether it may be said of a PERSON. */
        private boolean holdsOf(State state, int p) {
            // the truths that wait for 'and' and 'or', the latest as the lowest bit
            long stack = 0;
            for (int i = 0; i < size; i++) {
                long top = stack & 1;
                long below = stack >>> 1 & 1;
                switch (word[i]) {
                    case NOT: stack = stack ^ 1; break;
                    case AND: stack = stack >>> 2 << 1 | top & below; break;
                    case OR: stack = stack >>> 2 << 1 | top | below; break;
                    default: stack = stack << 1 | (isSo(state, p, i) ? 1 : 0); break;
                }
            }
            return (stack & 1) == 1;
        }

        private boolean isSo(State state, int p, int i) {
            switch (word[i]) {
                case RINGED: return state.wornBy(p) != NONE;
                case HAPPY: return isHappy(state, p);
                case BARE: return state.land.ownedBy(p) == 0;
                case HAS: return state.hasRing(p, number[i]);
                case BY: return state.isBy(p, number[i]);
                case KEEPS: return compares(Integer.bitCount(state.keptBy(p)), i);
                case STEPS: return compares(state.steps[p], i);
                case FINGER: return compares(state.land.finger[p], i);
                case NUMBER: return compares(p, i);
                default: return false;
            }
        }

        private static boolean isHappy(State state, int p) {
            int his = state.land.ownedBy(p);
            boolean wasOneHad = (his & state.ringsThatWere(State.HAD)) != 0;
            return wasOneHad && (his & state.ringsThatWere(State.MISSED)) == 0;
        }

        private boolean compares(int value, int i) {
            switch (sign[i]) {
                case '<': return value < number[i];
                case '=': return value == number[i];
                default: return value > number[i];
            }
        }
    }

    /** Ways about the ISLAND: a TOUR, KEEPERS anew, a CHAIN. */
    private static final class Plans {
        private static final int SETS = 1 << MOST;
        private static final int TOO_FAR = 1000000;

        private final int[] stop = new int[MOST];
        private int stops;
        private final int[] keeper = new int[MOST];
        private int chainNext = NONE;
        // tourCost[left * MOST + at]: the least FAR from at by all who are left
        private final int[] tourCost = new int[SETS * MOST];
        // keeperCost[used]: the least sum for the RINGS behind those whose keepers are used
        private final int[] keeperCost = new int[SETS];
        private final int[] toGive = new int[MOST];

        private Plans() {
            for (int r = 0; r < MOST; r++) {
                keeper[r] = NONE;
            }
        }

        private int planTour(State state, int p) {
            int targets = ownersOfKept(state, p);
            for (int left = 0; left < SETS; left++) {
                if ((left & ~targets) == 0) {
                    for (int at = 0; at < state.land.persons; at++) {
                        tourCost[left * MOST + at] = leastTour(state, left, at);
                    }
                }
            }
            followTour(state, targets, p);
            return tourCost[targets * MOST + p];
        }

        private static int ownersOfKept(State state, int p) {
            int bits = 0;
            for (int r = 0; r < state.land.rings; r++) {
                if (state.isKeptBy(r, p) && state.land.owner[r] != p) {
                    bits |= 1 << state.land.owner[r];
                }
            }
            return bits;
        }

        private int leastTour(State state, int left, int at) {
            int least = left == 0 ? 0 : TOO_FAR;
            for (int q = 0; q < state.land.persons; q++) {
                if ((left >> q & 1) == 1) {
                    least = Math.min(least, tourBy(state, left, at, q));
                }
            }
            return least;
        }

        private int tourBy(State state, int left, int at, int q) {
            return state.farBetween(at, q) + tourCost[(left & ~(1 << q)) * MOST + q];
        }

        private void followTour(State state, int targets, int p) {
            int left = targets;
            int at = p;
            stops = 0;
            for (int k = 0; k < MOST && left != 0; k++) {
                int next = firstOfTour(state, left, at);
                stop[k] = next;
                stops++;
                left &= ~(1 << next);
                at = next;
            }
        }

        private int firstOfTour(State state, int left, int at) {
            for (int q = 0; q < state.land.persons; q++) {
                if ((left >> q & 1) == 1 && tourBy(state, left, at, q) == tourCost[left * MOST + at]) {
                    return q;
                }
            }
            return at;
        }

        private int planKeepers(State state) {
            int many = 0;
            for (int r = 0; r < state.land.rings; r++) {
                if (state.how[r] != State.LOST) {
                    toGive[many] = r;
                    many++;
                }
            }
            for (int used = (1 << state.land.persons) - 1; used >= 0; used--) {
                keeperCost[used] = leastKeepers(state, used, many);
            }
            if (keeperCost[0] >= TOO_FAR) {
                return NONE;
            }
            followKeepers(state, many);
            return keeperCost[0];
        }

        private int leastKeepers(State state, int used, int many) {
            int k = Integer.bitCount(used);
            if (k >= many) {
                return 0;
            }
            int least = TOO_FAR;
            for (int q = 0; q < state.land.persons; q++) {
                if (mayKeep(state, used, q, toGive[k])) {
                    least = Math.min(least, keepersBy(state, used, q, toGive[k]));
                }
            }
            return least;
        }

        private static boolean mayKeep(State state, int used, int q, int r) {
            return (used >> q & 1) == 0 && state.land.owner[r] != q;
        }

        private int keepersBy(State state, int used, int q, int r) {
            return state.farBetween(q, state.land.owner[r]) + keeperCost[used | 1 << q];
        }

        private void followKeepers(State state, int many) {
            for (int r = 0; r < MOST; r++) {
                keeper[r] = NONE;
            }
            int used = 0;
            for (int k = 0; k < many; k++) {
                int r = toGive[k];
                keeper[r] = firstKeeper(state, used, r);
                used |= 1 << keeper[r];
            }
        }

        private int firstKeeper(State state, int used, int r) {
            for (int q = 0; q < state.land.persons; q++) {
                if (mayKeep(state, used, q, r) && keepersBy(state, used, q, r) == keeperCost[used]) {
                    return q;
                }
            }
            return 0;
        }

        /** The PERSONS of a CHAIN, as bits; chainNext is who would come again, or NONE. */
        private int chainFrom(State state, int p) {
            int bits = 1 << p;
            chainNext = keeperOfFirst(state, p);
            for (int n = 0; n < MOST && chainNext != NONE && (bits >> chainNext & 1) == 0; n++) {
                bits |= 1 << chainNext;
                chainNext = keeperOfFirst(state, chainNext);
            }
            return bits;
        }

        private static int keeperOfFirst(State state, int p) {
            for (int r = 0; r < state.land.rings; r++) {
                if (state.land.owner[r] == p && state.how[r] != State.LOST) {
                    return state.holder[r];
                }
            }
            return NONE;
        }
    }

    /** How thick RINGS are, and whom they FIT. */
    private static final class Fitting {
        private static final int MOST_TRIES = 8;
        private static final int GREATEST = 20;
        private static final int SETS = 1 << MOST;

        private int least = NONE;
        private int nextPerson = NONE;
        // given[set]: in how many ways just these PERSONS have the RINGS that were given so far
        private final int[] given = new int[SETS];
        private final int[] votes = new int[MOST];

        private int readTries(Island land, Tape tape) {
            if (!areTries(land, tape)) {
                return NONE;
            }
            int bits = 0;
            for (int size = GREATEST; size >= 1; size--) {
                if (isJustSo(land, tape, size)) {
                    bits |= 1 << size;
                    least = size;
                }
            }
            if (bits != 0) {
                nextPerson = bestToTry(land, bits);
            }
            return Integer.bitCount(bits);
        }

        private static boolean areTries(Island land, Tape tape) {
            int bytes = tape.length;
            if (bytes < 2 || bytes > 2 * MOST_TRIES || bytes % 2 != 0) {
                return false;
            }
            for (int i = 0; i < bytes; i += 2) {
                if (!land.isPerson(tape.at(i)) || tape.at(i + 1) > 2) {
                    return false;
                }
            }
            return true;
        }

        private static boolean isJustSo(Island land, Tape tape, int size) {
            for (int i = 0; i < tape.length; i += 2) {
                if (land.feel(size, tape.at(i)) != tape.at(i + 1)) {
                    return false;
                }
            }
            return true;
        }

        private static int bestToTry(Island land, int bits) {
            int best = NONE;
            int fewest = GREATEST + 1;
            for (int p = 0; p < land.persons; p++) {
                int left = mostLeftBy(land, bits, p);
                if (left < fewest) {
                    fewest = left;
                    best = p;
                }
            }
            return best;
        }

        private static int mostLeftBy(Island land, int bits, int p) {
            int tight = 0;
            int fitting = 0;
            int loose = 0;
            for (int size = 1; size <= GREATEST; size++) {
                if ((bits >> size & 1) == 1) {
                    int feel = land.feel(size, p);
                    tight += feel == 0 ? 1 : 0;
                    fitting += feel == 1 ? 1 : 0;
                    loose += feel == 2 ? 1 : 0;
                }
            }
            return Math.max(tight, Math.max(fitting, loose));
        }

        private int waysToGive(Island land) {
            int rings = giveAllBut(land, NONE);
            int many = 0;
            for (int set = 0; set < SETS; set++) {
                if (Integer.bitCount(set) == rings) {
                    many += given[set];
                }
            }
            return many;
        }

        /** Fills given for all RINGS but one: how many they are. */
        private int giveAllBut(Island land, int left) {
            for (int set = 0; set < SETS; set++) {
                given[set] = set == 0 ? 1 : 0;
            }
            int rings = 0;
            for (int r = 0; r < land.rings; r++) {
                if (r != left) {
                    giveOne(land, r, rings);
                    rings++;
                }
            }
            return rings;
        }

        private void giveOne(Island land, int r, int before) {
            for (int set = 0; set < SETS; set++) {
                if (given[set] != 0 && Integer.bitCount(set) == before) {
                    for (int p = 0; p < land.persons; p++) {
                        if (mayHave(land, set, p, r)) {
                            given[set | 1 << p] += given[set];
                        }
                    }
                }
            }
        }

        private static boolean mayHave(Island land, int set, int p, int r) {
            return (set >> p & 1) == 0 && land.feel(land.size[r], p) == 1;
        }

        private int likeliest(Island land, int r) {
            countVotes(land, r);
            int best = NONE;
            int most = 0;
            for (int p = 0; p < land.persons; p++) {
                if (votes[p] > most) {
                    most = votes[p];
                    best = p;
                }
            }
            return best;
        }

        private void countVotes(Island land, int r) {
            int rings = giveAllBut(land, r);
            for (int p = 0; p < land.persons; p++) {
                votes[p] = 0;
                for (int set = 0; set < SETS; set++) {
                    if (Integer.bitCount(set) == rings && mayHave(land, set, p, r)) {
                        votes[p] += given[set];
                    }
                }
            }
        }
    }

    /** The NOTE of a PERSON. */
    private static final class Note {
        private static final int ROOM = 128;

        private final byte[] bytes = new byte[ROOM];
        private int length;

        private void write(State state, int p) {
            Island land = state.land;
            int kept = state.keptBy(p);
            int worn = state.wornBy(p);
            length = 0;
            addName(land.personName[p]);
            addText(" keeps ");
            add('0' + Integer.bitCount(kept));
            if (kept != 0) {
                addText(" for");
            }
            for (int r = 0; r < land.rings; r++) {
                if ((kept >> r & 1) == 1) {
                    add(' ');
                    addName(land.personName[land.owner[r]]);
                }
            }
            if (worn != NONE) {
                addText(" wears ");
                addName(land.ringName[worn]);
            }
        }

        private void add(int value) {
            if (length < ROOM) {
                bytes[length] = (byte) value;
                length++;
            }
        }

        private void addText(String text) {
            for (int i = 0; i < text.length(); i++) {
                add(text.charAt(i));
            }
        }

        private void addName(long name) {
            for (int shift = 30; shift >= 0; shift -= 5) {
                int letter = (int) (name >>> shift) & 31;
                if (letter != 0) {
                    add('a' + letter - 1);
                }
            }
        }
    }
}
