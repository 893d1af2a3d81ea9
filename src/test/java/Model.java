import java.util.ArrayDeque;
import java.util.ArrayList;
import java.util.Deque;
import java.util.HashMap;
import java.util.List;
import java.util.Map;
import java.util.NoSuchElementException;
import java.util.Set;
import java.util.function.IntPredicate;
import java.util.regex.Matcher;
import java.util.regex.Pattern;

/** The document once more, written as plainly as the whole Java library allows, to compare answers with. */
final class Model {
    private static final Set<String> WORDS = Set.of("person", "ring", "fit", "walk", "jingle", "goes", "hands", "wears",
        "doffs", "finds", "day", "or", "and", "not", "ringed", "happy", "bare", "has", "by", "keeps", "steps", "finger",
        "number");

    private static final class Fault extends Exception {
        private static final long serialVersionUID = 1L;
        final int kind;
        final int place;

        Fault(int kind, int place) {
            this.kind = kind;
            this.place = place;
        }
    }

    private static final class Person {
        String name;
        int x;
        int y;
        int finger;
        int steps;

        Person copy() {
            Person p = new Person();
            p.name = name;
            p.x = x;
            p.y = y;
            p.finger = finger;
            p.steps = steps;
            return p;
        }
    }

    private static final class Ring {
        String name;
        int size;
        int owner;
        int holder;
        int due;
        boolean worn;
        boolean lost;
        int lostX;
        int lostY;
        int outcome;

        Ring copy() {
            Ring r = new Ring();
            r.name = name;
            r.size = size;
            r.owner = owner;
            r.holder = holder;
            r.due = due;
            r.worn = worn;
            r.lost = lost;
            r.lostX = lostX;
            r.lostY = lostY;
            r.outcome = outcome;
            return r;
        }
    }

    private static final class World {
        List<Person> persons = new ArrayList<>();
        List<Ring> rings = new ArrayList<>();
        int fit = 1;
        int walk = 5;
        int jingle = 4;
        int day;
        int handed;
        int gone;

        World copy() {
            World w = new World();
            persons.forEach(p -> w.persons.add(p.copy()));
            rings.forEach(r -> w.rings.add(r.copy()));
            w.fit = fit;
            w.walk = walk;
            w.jingle = jingle;
            w.day = day;
            w.handed = handed;
            w.gone = gone;
            return w;
        }
    }

    private record Token(String text, int place) {
        boolean isNumber() {
            return text.matches("[0-9]{1,3}");
        }

        boolean isWord() {
            return text.matches("[a-z]{1,7}");
        }

        boolean isName() {
            return isWord() && !WORDS.contains(text);
        }
    }

    private final StringBuilder tape = new StringBuilder();
    private World world = new World();
    private IntPredicate saying;
    private final Deque<World> past = new ArrayDeque<>();
    private int faultKind;
    private List<Integer> tour = new ArrayList<>();
    private Map<Integer, Integer> keepers = new HashMap<>();
    private int sizeLeast = -1;
    private int knuckle = -1;
    private String note = "";
    private int[] told;
    private final World[] keptWorlds = new World[2];
    private final IntPredicate[] keptSayings = new IntPredicate[2];

    private List<Token> tokens;
    private int at;
    private int ones;

    // ---- texts

    private void open(int most) {
        String text = tape.toString();
        tape.setLength(0);
        tokens = new ArrayList<>();
        at = 0;
        Matcher m = Pattern.compile("[a-z0-9]+|[^ \\n]").matcher(text);
        while (m.find() && m.start() < most) {
            tokens.add(new Token(m.group(), m.start()));
        }
        boolean isLong = text.length() > most;
        tokens.add(new Token(isLong ? "LONG" : "", isLong ? most : text.length()));
    }

    private Token look() {
        return tokens.get(at);
    }

    private Token take(boolean canCome) throws Fault {
        Token t = look();
        if (!canCome) {
            throw new Fault(1, t.place);
        }
        at++;
        return t;
    }

    private void sign(String s) throws Fault {
        take(look().text.equals(s));
    }

    private int number(int least, int most) throws Fault {
        Token t = take(look().isNumber());
        int n = Integer.parseInt(t.text);
        if (n < least || n > most) {
            throw new Fault(2, t.place);
        }
        return n;
    }

    private static int personNamed(World w, String name) {
        for (int i = 0; i < w.persons.size(); i++) {
            if (w.persons.get(i).name.equals(name)) {
                return i;
            }
        }
        return -1;
    }

    private static int ringNamed(World w, String name) {
        for (int i = 0; i < w.rings.size(); i++) {
            if (w.rings.get(i).name.equals(name)) {
                return i;
            }
        }
        return -1;
    }

    private String newName(World w) throws Fault {
        Token t = take(look().isName());
        if (personNamed(w, t.text) >= 0 || ringNamed(w, t.text) >= 0) {
            throw new Fault(3, t.place);
        }
        return t.text;
    }

    private int personToken(World w) throws Fault {
        Token t = take(look().isName());
        int p = personNamed(w, t.text);
        if (p < 0) {
            throw new Fault(3, t.place);
        }
        return p;
    }

    private int ringToken(World w) throws Fault {
        Token t = take(look().isName());
        int r = ringNamed(w, t.text);
        if (r < 0) {
            throw new Fault(3, t.place);
        }
        return r;
    }

    private boolean isEnd() {
        return look().text.isEmpty();
    }

    private int readIsland(World w) throws Fault {
        List<String> once = new ArrayList<>();
        int lines = 0;
        for (; !isEnd(); lines++) {
            Token t = take(Set.of("person", "ring", "fit", "walk", "jingle").contains(look().text));
            if (t.text.equals("person")) {
                readPerson(w, t);
            } else if (t.text.equals("ring")) {
                readRing(w, t);
            } else {
                if (once.contains(t.text)) {
                    throw new Fault(3, t.place);
                }
                once.add(t.text);
                if (t.text.equals("fit")) {
                    w.fit = number(0, 5);
                } else if (t.text.equals("walk")) {
                    w.walk = number(1, 20);
                } else {
                    w.jingle = number(2, 9);
                }
            }
            sign(";");
        }
        w.persons.forEach(p -> p.steps = w.walk);
        return lines;
    }

    private void readPerson(World w, Token t) throws Fault {
        if (w.persons.size() == 7) {
            throw new Fault(4, t.place);
        }
        Person p = new Person();
        p.name = newName(w);
        p.x = number(0, 20);
        p.y = number(0, 20);
        p.finger = number(1, 20);
        w.persons.add(p);
    }

    private void readRing(World w, Token t) throws Fault {
        if (w.rings.size() == 7) {
            throw new Fault(4, t.place);
        }
        Ring r = new Ring();
        r.name = newName(w);
        r.size = number(1, 20);
        r.owner = personToken(w);
        r.holder = personToken(w);
        r.due = number(0, 300);
        w.rings.add(r);
    }

    // ---- acts on a world

    private static boolean keeps(World w, int p, int r) {
        Ring ring = w.rings.get(r);
        return !ring.lost && !ring.worn && ring.holder == p;
    }

    private static int worn(World w, int p) {
        for (int r = 0; r < w.rings.size(); r++) {
            if (w.rings.get(r).worn && w.rings.get(r).holder == p) {
                return r;
            }
        }
        return -1;
    }

    private static int feel(World w, int size, int p) {
        int finger = w.persons.get(p).finger;
        if (Math.abs(size - finger) <= w.fit) {
            return 1;
        }
        return size < finger ? 0 : 2;
    }

    private static int far(World w, int p, int q) {
        return Math.abs(w.persons.get(p).x - w.persons.get(q).x) + Math.abs(w.persons.get(p).y - w.persons.get(q).y);
    }

    private static int goes(World w, int p, int x, int y) {
        Person who = w.persons.get(p);
        int far = Math.abs(who.x - x) + Math.abs(who.y - y);
        if (who.x == x && who.y == y) {
            return 1;
        }
        if (far > who.steps) {
            return 2;
        }
        who.x = x;
        who.y = y;
        who.steps -= far;
        w.gone += far;
        return 0;
    }

    private static int hands(World w, int p, int r, int q) {
        if (p == q) {
            return 1;
        }
        if (!keeps(w, p, r)) {
            return 2;
        }
        if (far(w, p, q) != 0) {
            return 3;
        }
        w.rings.get(r).holder = q;
        w.handed++;
        return 0;
    }

    private static int wears(World w, int p, int r) {
        if (!keeps(w, p, r)) {
            return 1;
        }
        if (worn(w, p) >= 0) {
            return 2;
        }
        if (feel(w, w.rings.get(r).size, p) != 1) {
            return 3;
        }
        w.rings.get(r).worn = true;
        return 0;
    }

    private static int doffs(World w, int p) {
        int r = worn(w, p);
        if (r < 0) {
            return 1;
        }
        w.rings.get(r).worn = false;
        return 0;
    }

    private static int finds(World w, int p, int r) {
        Ring ring = w.rings.get(r);
        if (!ring.lost) {
            return 1;
        }
        if (ring.lostX != w.persons.get(p).x || ring.lostY != w.persons.get(p).y) {
            return 2;
        }
        ring.lost = false;
        ring.holder = p;
        return 0;
    }

    private static void day(World w) {
        for (Ring r : w.rings) {
            if (r.due == w.day) {
                r.outcome = !r.lost && r.holder == r.owner ? 1 : 2;
            }
        }
        for (int p = 0; p < w.persons.size(); p++) {
            int many = 0;
            Ring last = null;
            for (int r = 0; r < w.rings.size(); r++) {
                if (keeps(w, p, r)) {
                    many++;
                    last = w.rings.get(r);
                }
            }
            if (last != null && many >= w.jingle) {
                last.lost = true;
                last.lostX = w.persons.get(p).x;
                last.lostY = w.persons.get(p).y;
            }
        }
        w.day++;
        w.persons.forEach(p -> p.steps = w.walk);
    }

    private static int live(World w, int n) {
        int went = 0;
        for (; went < n && w.day < 400; went++) {
            day(w);
        }
        return went;
    }

    private static int liveDrawn(World w, int n, int seed) {
        int[] x = {seed};
        int went = 0;
        for (; went < n && w.day < 400; went++) {
            for (int p = 0; p < w.persons.size(); p++) {
                int kind = draw(x, 6);
                if (kind <= 1) {
                    int toX = draw(x, 21);
                    int toY = draw(x, 21);
                    goes(w, p, toX, toY);
                } else if (kind == 2 && !w.rings.isEmpty()) {
                    int r = draw(x, w.rings.size());
                    int q = draw(x, w.persons.size());
                    hands(w, p, r, q);
                } else if (kind == 3 && !w.rings.isEmpty()) {
                    wears(w, p, draw(x, w.rings.size()));
                } else if (kind == 4) {
                    doffs(w, p);
                }
            }
            day(w);
        }
        return went;
    }

    private static int draw(int[] x, int n) {
        x[0] = x[0] * 1103515245 + 12345;
        return (int) ((x[0] & 0xFFFFFFFFL) / 256 % n);
    }

    // ---- the face

    int feed(int... numbers) {
        if (tape.length() > 920) {
            return -1;
        }
        for (int n : numbers) {
            for (int k = 3; k >= 0; k--) {
                tape.append((char) (n >> 8 * k & 255));
            }
        }
        return tape.length();
    }

    boolean end(int n) {
        boolean can = n >= 0 && n <= tape.length();
        if (can) {
            tape.setLength(n);
        }
        return can;
    }

    int island() {
        open(900);
        World w = new World();
        try {
            int lines = readIsland(w);
            world = w;
            saying = null;
            past.clear();
            faultKind = 0;
            return lines;
        } catch (Fault f) {
            faultKind = f.kind;
            return -1 - f.place;
        }
    }

    int fault() {
        return faultKind;
    }

    private boolean isPerson(int p) {
        return p >= 0 && p < world.persons.size();
    }

    private boolean isRing(int r) {
        return r >= 0 && r < world.rings.size();
    }

    private int ringBits(java.util.function.Predicate<Ring> which) {
        int bits = 0;
        for (int r = 0; r < world.rings.size(); r++) {
            if (which.test(world.rings.get(r))) {
                bits += 1 << r;
            }
        }
        return bits;
    }

    int person(int p, int what) {
        if (!isPerson(p) || what < 0 || what > 6) {
            throw new NoSuchElementException();
        }
        Person who = world.persons.get(p);
        return switch (what) {
            case 0 -> who.x;
            case 1 -> who.y;
            case 2 -> who.finger;
            case 3 -> who.steps;
            case 4 -> ringBits(r -> !r.lost && !r.worn && r.holder == p);
            case 5 -> worn(world, p);
            default -> ringBits(r -> r.owner == p);
        };
    }

    int ring(int r, int what) {
        if (!isRing(r) || what < 0 || what > 7) {
            throw new NoSuchElementException();
        }
        Ring one = world.rings.get(r);
        return switch (what) {
            case 0 -> one.size;
            case 1 -> one.owner;
            case 2 -> one.lost ? -1 : one.holder;
            case 3 -> one.due;
            case 4 -> one.lost ? 2 : one.worn ? 1 : 0;
            case 5 -> one.outcome;
            case 6 -> one.lost ? one.lostX : world.persons.get(one.holder).x;
            default -> one.lost ? one.lostY : world.persons.get(one.holder).y;
        };
    }

    int fits(int r, int p) {
        return isRing(r) && isPerson(p) ? feel(world, world.rings.get(r).size, p) : -1;
    }

    int now(int what) {
        return switch (what) {
            case 0 -> world.day;
            case 1 -> ringBits(r -> r.worn);
            case 2 -> ringBits(r -> r.lost);
            case 3 -> ringBits(r -> r.outcome == 1);
            case 4 -> ringBits(r -> r.outcome == 2);
            case 5 -> world.handed;
            case 6 -> world.gone;
            default -> -1;
        };
    }

    private interface Act {
        int on(World w);
    }

    private int act(boolean can, boolean isDays, Act act) {
        if (!can) {
            return -1;
        }
        World next = world.copy();
        int answer = act.on(next);
        if (isDays ? answer > 0 : answer == 0) {
            keep(next);
        }
        return answer;
    }

    private void keep(World next) {
        past.addLast(world);
        if (past.size() > 8) {
            past.removeFirst();
        }
        world = next;
    }

    int go(int p, int x, int y) {
        boolean isPlace = x >= 0 && x <= 20 && y >= 0 && y <= 20;
        return act(isPerson(p) && isPlace, false, w -> goes(w, p, x, y));
    }

    int hand(int p, int r, int q) {
        return act(isPerson(p) && isRing(r) && isPerson(q), false, w -> hands(w, p, r, q));
    }

    int wear(int p, int r) {
        return act(isPerson(p) && isRing(r), false, w -> wears(w, p, r));
    }

    int doff(int p) {
        return act(isPerson(p), false, w -> doffs(w, p));
    }

    int find(int p, int r) {
        return act(isPerson(p) && isRing(r), false, w -> finds(w, p, r));
    }

    int days(int n) {
        return act(n >= 1 && n <= 60, true, w -> live(w, n));
    }

    int drawn(int n, int seed) {
        return act(n >= 1 && n <= 60, true, w -> liveDrawn(w, n, seed));
    }

    int undo() {
        if (past.isEmpty()) {
            return -1;
        }
        world = past.removeLast();
        return past.size();
    }

    int reach(int r) {
        if (!isRing(r)) {
            return -1;
        }
        Person owner = world.persons.get(ring(r, 1));
        int far = Math.abs(owner.x - ring(r, 6)) + Math.abs(owner.y - ring(r, 7));
        int days = 0;
        far -= world.walk * (world.rings.get(r).lost ? 1 : 2);
        while (far > 0) {
            days++;
            far -= world.walk * (world.rings.get(r).lost ? 1 : 2);
        }
        return days;
    }

    int inTime() {
        int bits = 0;
        for (int r = 0; r < world.rings.size(); r++) {
            if (ring(r, 5) == 0 && world.day + reach(r) <= ring(r, 3)) {
                bits += 1 << r;
            }
        }
        return bits;
    }

    private int best;
    private List<Integer> bestList;

    private void tours(int from, List<Integer> left, List<Integer> way, int far) {
        if (left.isEmpty() && far < best) {
            best = far;
            bestList = new ArrayList<>(way);
        }
        for (int i = 0; i < left.size(); i++) {
            List<Integer> rest = new ArrayList<>(left);
            int q = rest.remove(i);
            way.add(q);
            tours(q, rest, way, far + far(world, from, q));
            way.remove(way.size() - 1);
        }
    }

    int tour(int p) {
        if (!isPerson(p)) {
            return -1;
        }
        List<Integer> whom = new ArrayList<>();
        for (int q = 0; q < world.persons.size(); q++) {
            for (int r = 0; r < world.rings.size() && q != p; r++) {
                if (keeps(world, p, r) && ring(r, 1) == q && !whom.contains(q)) {
                    whom.add(q);
                }
            }
        }
        best = Integer.MAX_VALUE;
        tours(p, whom, new ArrayList<>(), 0);
        tour = bestList;
        return best;
    }

    int tourAt(int k) {
        return k < 0 || k >= tour.size() ? -1 : tour.get(k);
    }

    private void give(int r, List<Integer> to, int sum) {
        if (r == world.rings.size()) {
            if (sum < best) {
                best = sum;
                bestList = new ArrayList<>(to);
            }
            return;
        }
        if (world.rings.get(r).lost) {
            to.add(-1);
            give(r + 1, to, sum);
            to.remove(to.size() - 1);
            return;
        }
        for (int q = 0; q < world.persons.size(); q++) {
            if (q != ring(r, 1) && !to.contains(q)) {
                to.add(q);
                give(r + 1, to, sum + far(world, q, ring(r, 1)));
                to.remove(to.size() - 1);
            }
        }
    }

    int keepers() {
        best = Integer.MAX_VALUE;
        give(0, new ArrayList<>(), 0);
        if (best == Integer.MAX_VALUE) {
            return -1;
        }
        keepers = new HashMap<>();
        for (int r = 0; r < bestList.size(); r++) {
            keepers.put(r, bestList.get(r));
        }
        return best;
    }

    int keeperOf(int r) {
        return keepers.getOrDefault(r, -1);
    }

    int sizes() {
        String pairs = tape.toString();
        tape.setLength(0);
        int n = pairs.length();
        if (n < 2 || n > 16 || n % 2 == 1) {
            return -1;
        }
        List<Integer> fitting = new ArrayList<>();
        for (int size = 1; size <= 20; size++) {
            fitting.add(size);
        }
        for (int i = 0; i < n; i += 2) {
            int p = pairs.charAt(i);
            int how = pairs.charAt(i + 1);
            if (!isPerson(p) || how > 2) {
                return -1;
            }
            fitting.removeIf(size -> feel(world, size, p) != how);
        }
        if (!fitting.isEmpty()) {
            sizeLeast = fitting.get(0);
            int fewest = 99;
            for (int p = 0; p < world.persons.size(); p++) {
                int[] left = new int[3];
                for (int size : fitting) {
                    left[feel(world, size, p)]++;
                }
                int most = Math.max(left[0], Math.max(left[1], left[2]));
                if (most < fewest) {
                    fewest = most;
                    knuckle = p;
                }
            }
        }
        return fitting.size();
    }

    int sizeLeast() {
        return sizeLeast;
    }

    int knuckle() {
        return knuckle;
    }

    private int countWays(int r, List<Integer> to, int[][] votes) {
        if (r == world.rings.size()) {
            for (int i = 0; i < r; i++) {
                votes[i][to.get(i)]++;
            }
            return 1;
        }
        int many = 0;
        for (int p = 0; p < world.persons.size(); p++) {
            if (!to.contains(p) && fits(r, p) == 1) {
                to.add(p);
                many += countWays(r + 1, to, votes);
                to.remove(to.size() - 1);
            }
        }
        return many;
    }

    int ways() {
        return countWays(0, new ArrayList<>(), new int[7][7]);
    }

    int likely(int r) {
        int[][] votes = new int[7][7];
        if (!isRing(r) || countWays(0, new ArrayList<>(), votes) == 0) {
            return -1;
        }
        int who = 0;
        for (int p = 1; p < 7; p++) {
            who = votes[r][p] > votes[r][who] ? p : who;
        }
        return who;
    }

    private boolean isClosed;

    int chain(int p) {
        if (!isPerson(p)) {
            return -1;
        }
        List<Integer> who = new ArrayList<>();
        who.add(p);
        isClosed = false;
        while (true) {
            int last = who.get(who.size() - 1);
            int next = -1;
            for (int r = world.rings.size() - 1; r >= 0; r--) {
                if (ring(r, 1) == last && !world.rings.get(r).lost) {
                    next = ring(r, 2);
                }
            }
            if (next < 0) {
                return who.size();
            }
            if (who.contains(next)) {
                isClosed = next == p;
                return who.size();
            }
            who.add(next);
        }
    }

    int closed(int p) {
        if (!isPerson(p)) {
            return -1;
        }
        chain(p);
        return isClosed ? 1 : 0;
    }

    int note(int p) {
        if (!isPerson(p)) {
            return -1;
        }
        StringBuilder whose = new StringBuilder();
        int many = 0;
        for (int r = 0; r < world.rings.size(); r++) {
            if (keeps(world, p, r)) {
                many++;
                whose.append(" ").append(world.persons.get(ring(r, 1)).name);
            }
        }
        note = world.persons.get(p).name + " keeps " + many + (many > 0 ? " for" + whose : "");
        if (worn(world, p) >= 0) {
            note += " wears " + world.rings.get(worn(world, p)).name;
        }
        return note.length();
    }

    int byteAt(int i) {
        return i < 0 || i >= note.length() ? -1 : note.charAt(i);
    }

    int odds(int r, int n, int seed) {
        if (!isRing(r) || n < 1 || n > 30) {
            return -1;
        }
        int many = 0;
        for (int i = 0; i < n; i++) {
            World w = world.copy();
            liveDrawn(w, 20, seed + i);
            many += !w.rings.get(r).lost && w.rings.get(r).holder == w.rings.get(r).owner ? 1 : 0;
        }
        return many;
    }

    private record Line(int base, Act act) {
    }

    private List<Line> readBook() throws Fault {
        List<Line> lines = new ArrayList<>();
        while (!isEnd()) {
            Token t = look();
            boolean isDay = t.text.equals("day");
            int p = isDay ? -1 : personToken(world);
            if (lines.size() == 40) {
                throw new Fault(4, t.place);
            }
            if (isDay) {
                at++;
                int n = number(1, 60);
                lines.add(new Line(50, w -> 400 - w.day < n ? 1 : live(w, n) - n));
            } else {
                lines.add(readAct(p));
            }
            sign(";");
        }
        return lines;
    }

    private Line readAct(int p) throws Fault {
        Token t = take(Set.of("goes", "hands", "wears", "doffs", "finds").contains(look().text));
        if (t.text.equals("goes")) {
            int x = number(0, 20);
            int y = number(0, 20);
            return new Line(0, w -> goes(w, p, x, y));
        }
        if (t.text.equals("doffs")) {
            return new Line(30, w -> doffs(w, p));
        }
        int r = ringToken(world);
        if (t.text.equals("hands")) {
            int q = personToken(world);
            return new Line(10, w -> hands(w, p, r, q));
        }
        return t.text.equals("wears") ? new Line(20, w -> wears(w, p, r)) : new Line(40, w -> finds(w, p, r));
    }

    int book(int lives) {
        if (lives != 0 && lives != 1) {
            return -1000;
        }
        open(400);
        List<Line> lines;
        try {
            lines = readBook();
        } catch (Fault f) {
            faultKind = f.kind;
            return -2 - f.place;
        }
        faultKind = 0;
        World w = world.copy();
        int good = 0;
        int why = 0;
        for (Line line : lines) {
            int not = line.act.on(w);
            if (not != 0) {
                why = line.base + not;
                break;
            }
            good++;
        }
        World old = world;
        world = w;
        told = new int[] {why, good, w.day, now(2)};
        world = old;
        if (lives == 1 && good > 0) {
            keep(w);
        }
        return why == 0 ? -1 : good;
    }

    int told(int what) {
        return told == null || what < 0 || what > 3 ? -1 : told[what];
    }

    private IntPredicate cond(int depth) throws Fault {
        IntPredicate whole = all(depth);
        while (look().text.equals("or")) {
            at++;
            whole = whole.or(all(depth));
        }
        return whole;
    }

    private IntPredicate all(int depth) throws Fault {
        IntPredicate whole = one(depth);
        while (look().text.equals("and")) {
            at++;
            whole = whole.and(one(depth));
        }
        return whole;
    }

    private IntPredicate one(int depth) throws Fault {
        Token t = take(Set.of("not", "(", "ringed", "happy", "bare", "has", "by", "keeps", "steps", "finger", "number")
            .contains(look().text));
        ones++;
        if (ones > 20 || depth > 8) {
            throw new Fault(4, t.place);
        }
        switch (t.text) {
            case "not": return one(depth + 1).negate();
            case "(":
                IntPredicate inner = cond(depth + 1);
                sign(")");
                return inner;
            case "ringed": return p -> worn(world, p) >= 0;
            case "happy": return p -> isHappy(p);
            case "bare": return p -> person(p, 6) == 0;
            case "has":
                int r = ringToken(world);
                return p -> ring(r, 2) == p;
            case "by":
                int q = personToken(world);
                return p -> person(p, 0) == person(q, 0) && person(p, 1) == person(q, 1);
            default: return measure(t.text);
        }
    }

    private boolean isHappy(int p) {
        int due = 0;
        int had = 0;
        for (Ring r : world.rings) {
            if (r.owner == p && r.due < world.day) {
                due++;
                had += r.outcome == 1 ? 1 : 0;
            }
        }
        return due > 0 && had == due;
    }

    private IntPredicate measure(String what) throws Fault {
        Token t = take(Set.of("<", "=", ">").contains(look().text));
        int n = number(0, 999);
        return p -> {
            int value = switch (what) {
                case "keeps" -> Integer.bitCount(person(p, 4));
                case "steps" -> person(p, 3);
                case "finger" -> person(p, 2);
                default -> p;
            };
            return t.text.equals("<") ? value < n : t.text.equals("=") ? value == n : value > n;
        };
    }

    int sentence() {
        open(200);
        ones = 0;
        try {
            IntPredicate whole = cond(1);
            take(isEnd());
            saying = whole;
            faultKind = 0;
            return ones;
        } catch (Fault f) {
            faultKind = f.kind;
            return -1 - f.place;
        }
    }

    int said(int k) {
        if (saying == null) {
            return -1;
        }
        List<Integer> who = new ArrayList<>();
        for (int p = 0; p < world.persons.size(); p++) {
            if (saying.test(p)) {
                who.add(p);
            }
        }
        if (k == -1) {
            return who.size();
        }
        return k < 0 || k >= who.size() ? -1 : who.get(k);
    }

    boolean image(int k) {
        if (k != 0 && k != 1) {
            return false;
        }
        keptWorlds[k] = world.copy();
        keptSayings[k] = saying;
        return true;
    }

    boolean restore(int k) {
        if (k != 0 && k != 1 || keptWorlds[k] == null) {
            return false;
        }
        world = keptWorlds[k].copy();
        saying = keptSayings[k];
        past.clear();
        return true;
    }

    int count(int what) {
        return switch (what) {
            case 0 -> world.persons.size();
            case 1 -> world.rings.size();
            case 2 -> world.fit;
            case 3 -> world.walk;
            case 4 -> world.jingle;
            case 5 -> tape.length();
            default -> -1;
        };
    }
}
