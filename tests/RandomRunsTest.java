import java.lang.reflect.Method;
import java.math.BigInteger;
import java.util.ArrayList;
import java.util.List;
import java.util.Random;

/**
 * Long runs of calls by draws, each answered by the class and by PlainMoon, which does
 * what the document's words say minute by minute and DAY by DAY, however long it takes.
 */
public final class RandomRunsTest {
    private static final int RUNS = 400;
    private static final int CALLS = 512;

    // Each call with what its arguments are, a letter each (see argument()).
    private static final String[] CALL_FORMS = {
        "row s o z", "set s x v", "copy s s x x x", "element s x", "holds s",
        "evening s k d", "says s k", "isSo s", "ask q a", "notch g g h", "stone g", "cloud d",
        "clear p", "feed l", "wipe", "sky", "notchOf y w", "stoneOf y", "line r", "moon d c",
        "slant d", "behind d", "is d k", "shines d f f", "light d f f", "next d k", "many d n k",
        "between d n r r i", "alike d", "farthest d n", "grows d", "lights d e f f", "soonest d n",
        "brightest d n", "walks d n f f f i", "overs d n y i", "lates d n w", "date d", "months d",
        "eclipse d", "sees d f w", "picture s d w", "seen d u", "court s e", "eager s e",
        "tide d f", "high d", "bone s e w", "hits d n j", "chance d n j", "meets y d j",
        "place d e j", "meant d n j", "told d t", "goes", "looks e", "seed v", "image", "back",
        "status b"
    };

    private final Random random;
    private final int run;
    private final MoonOverTheHill moon = new MoonOverTheHill();
    private final PlainMoon plain = new PlainMoon();
    private final List<String> calls = new ArrayList<>();
    private int today;

    private RandomRunsTest(int run) {
        this.run = run;
        this.random = new Random(977L * run + 5);
    }

    public static void main(String[] args) throws Exception {
        int wrong = 0;
        for (int run = 0; run < RUNS; run++) {
            if (!new RandomRunsTest(run).isRight()) {
                wrong++;
            }
        }
        System.out.println(wrong == 0 ? "all answers are as due" : wrong + " runs are not as due");
        if (wrong != 0) {
            System.exit(1);
        }
    }

    private boolean isRight() throws Exception {
        today = random.nextInt(10000);
        while (calls.size() < CALLS) {
            int sort = random.nextInt(12);
            boolean right;
            if (sort == 0) {
                right = tapeIsRead();
            } else if (sort == 1) {
                right = rowIsFilled();
            } else {
                right = callIsRight(CALL_FORMS[random.nextInt(CALL_FORMS.length)]);
            }
            if (!right) {
                return false;
            }
        }
        return true;
    }

    private boolean callIsRight(String form) throws Exception {
        String[] parts = form.split(" ");
        Object[] arguments = new Object[parts.length - 1];
        for (int i = 0; i < arguments.length; i++) {
            char letter = parts[i + 1].charAt(0);
            long v = argument(letter);
            // Spans are the right way round, more often than not.
            if (i > 0 && parts[i].charAt(0) == letter && "grf".indexOf(letter) >= 0 && random.nextInt(8) > 0) {
                v = Math.max(v, ((Number) arguments[i - 1]).longValue());
            }
            boolean isLong = parts[0].equals("set") && i == 2;
            arguments[i] = isLong ? (Object) v : (Object) (int) v;
        }
        return answersAlike(parts[0], arguments);
    }

    private boolean answersAlike(String name, Object... arguments) throws Exception {
        Class<?>[] types = new Class<?>[arguments.length];
        for (int i = 0; i < types.length; i++) {
            types[i] = arguments[i] instanceof Long ? long.class : int.class;
        }
        Method due = PlainMoon.class.getDeclaredMethod(name, types);
        Method got = MoonOverTheHill.class.getMethod(name, types);
        long want = ((Number) due.invoke(plain, arguments)).longValue();
        long have = ((Number) got.invoke(moon, arguments)).longValue();
        calls.add(name + List.of(arguments) + " " + have);
        if (want == have) {
            return true;
        }
        for (int i = Math.max(0, calls.size() - 60); i < calls.size(); i++) {
            System.out.println("  " + calls.get(i));
        }
        System.out.println("run " + run + ", call " + calls.size() + ": " + name + List.of(arguments)
            + " answered " + have + ", due is " + want);
        return false;
    }

    private long argument(char letter) {
        switch (letter) {
            case 'd':
                return day();
            case 'n':
                return random.nextInt(12) == 0 ? pick(-1, 0, 1, 1000, 1001, 999) : 1 + random.nextInt(80);
            case 'e':
                return random.nextInt(6) == 0 ? pick(-1, 0, 1, 40, 41, 8) : 1 + random.nextInt(12);
            case 's':
                return random.nextInt(14) == 0 ? pick(-1, 8, 100) : random.nextInt(8);
            case 'o':
                return random.nextInt(12) == 0 ? pick(-1, 5) : random.nextInt(5);
            case 'z':
                return random.nextInt(6) == 0 ? pick(-1, 0, 40, 41, 7) : random.nextInt(14);
            case 'x':
                return random.nextInt(12) == 0 ? pick(-1, 39, 40, Integer.MAX_VALUE) : random.nextInt(9);
            case 'v':
                return value();
            case 'k':
                return random.nextInt(12) == 0 ? pick(-1, 6) : random.nextInt(6);
            case 'q':
                return random.nextInt(12) == 0 ? pick(-1, 4) : random.nextInt(4);
            case 'a':
                return random.nextInt(4) == 0 ? pick(-1, 0, 9, 10, 9999, 10000) : random.nextInt(random.nextBoolean() ? 10 : 10000);
            case 'g':
                return random.nextInt(10) == 0 ? pick(-1, 0, 179, 180) : random.nextInt(180);
            case 'h':
                return random.nextInt(10) == 0 ? pick(-1, 0, 30, 31) : random.nextInt(31);
            case 'r':
                return random.nextInt(10) == 0 ? pick(-1, 0, 999, 1000, 179, 180) : random.nextInt(200);
            default:
                return smallArgument(letter);
        }
    }

    private long smallArgument(char letter) {
        switch (letter) {
            case 'p':
                return pick(-1, 0, 1, 2, 3, 3);
            case 'l':
                return pick(-1, 0, 32, 59, 97, 122, 255, 256);
            case 'y':
                return random.nextInt(9) - 1;
            case 'w':
                return random.nextInt(10) == 0 ? pick(-1, 3) : random.nextInt(3);
            case 'c':
                return random.nextInt(11) - 1;
            case 'f':
                return random.nextInt(14) == 0 ? pick(-1, 0, 1439, 1440, 1441) : random.nextInt(1440);
            case 'i':
                return random.nextInt(12) == 0 ? pick(-2, 999, 40, Integer.MIN_VALUE) : random.nextInt(6) - 1;
            case 'u':
                return random.nextInt(10) == 0 ? pick(-1, 51) : random.nextInt(51);
            case 'j':
                return random.nextInt(10) == 0 ? pick(-1, 20, 21) : random.nextInt(8);
            case 't':
                return random.nextInt(8) == 0 ? pick(-1, 0, 2952, 2953) : random.nextInt(2953);
            case 'b':
                return random.nextInt(20) - 1;
            default:
                throw new IllegalArgumentException("no such letter: " + letter);
        }
    }

    private long day() {
        switch (random.nextInt(10)) {
            case 0:
                return pick(-1, 0, 1, 9990, 9991, 9992, 9998, 9999, 10000);
            case 1:
                return 9950 + random.nextInt(50);
            case 2:
                return random.nextInt(10000);
            default:
                return Math.min(9999, today + random.nextInt(40));
        }
    }

    private long value() {
        switch (random.nextInt(6)) {
            case 0:
                return random.nextLong();
            case 1:
                return day();
            case 2:
                return pick(-1, 0, 127, 128, 255, 256, 32768, 65536, 29, 30, 9999, 10000);
            default:
                return 27 + random.nextInt(5);
        }
    }

    private long pick(long... of) {
        return of[random.nextInt(of.length)];
    }

    /** A ROW as pictures, bones and witnesses need it. */
    private boolean rowIsFilled() throws Exception {
        int s = random.nextInt(8);
        int n = random.nextInt(3) == 0 ? random.nextInt(12) : 8;
        boolean right = answersAlike("row", s, 1 + random.nextInt(3), n);
        int use = random.nextInt(3);
        for (int i = 0; i < n && right && calls.size() < CALLS; i++) {
            long v = use == 0 ? pictureElement(i) : use == 1 ? 28 + random.nextInt(4) : today + random.nextInt(12);
            right = answersAlike("set", s, i, v);
        }
        return right;
    }

    private long pictureElement(int i) {
        long[] least = {0, 0, 30, 80, 0, 20, 0, 1};
        int[] span = {60, 101, 60, 200, 40, 101, 1440, 90};
        if (random.nextInt(25) == 0) {
            return pick(-1, 0, 1440, 1001, 1000, 70000);
        }
        return i < least.length ? least[i] + random.nextInt(span[i]) : 0;
    }

    private boolean tapeIsRead() throws Exception {
        StringBuilder tape = new StringBuilder();
        int statements = 1 + random.nextInt(4);
        for (int i = 0; i < statements; i++) {
            tape.append(i > 0 ? random.nextInt(6) == 0 ? " ; " : ";" : "").append(statement());
        }
        if (random.nextInt(3) == 0) {
            spoil(tape);
        }
        boolean right = true;
        for (int i = 0; i < tape.length() && right && calls.size() < CALLS - 1; i++) {
            right = answersAlike("feed", (int) tape.charAt(i));
        }
        return right && answersAlike("sky");
    }

    private String statement() {
        String[] words = {"off", "node", "swing", "notch", "notch", "stone", "stone", "cloud"};
        String word = words[random.nextInt(words.length)];
        String blank = random.nextInt(6) == 0 ? "" : " ";
        if (word.equals("notch")) {
            int from = random.nextInt(180);
            int to = random.nextInt(10) == 0 ? random.nextInt(190) : from + random.nextInt(180 - from);
            int height = random.nextInt(10) == 0 ? 31 : random.nextInt(31);
            return word + blank + from + " " + to + "  " + height;
        }
        if (word.equals("stone")) {
            return word + blank + random.nextInt(random.nextInt(10) == 0 ? 200 : 180);
        }
        if (word.equals("cloud")) {
            return word + blank + (random.nextInt(4) == 0 ? random.nextInt(6) : today + random.nextInt(20));
        }
        return word + blank + random.nextInt(random.nextInt(10) == 0 ? 100000 : 10000);
    }

    private void spoil(StringBuilder tape) {
        int at = random.nextInt(tape.length());
        switch (random.nextInt(4)) {
            case 0:
                tape.setLength(at);
                break;
            case 1:
                tape.setCharAt(at, (char) random.nextInt(256));
                break;
            case 2:
                tape.insert(at, " ;a7Z".charAt(random.nextInt(5)));
                break;
            default:
                tape.deleteCharAt(at);
                break;
        }
    }
}

/** The document's words, done as plainly as can be. */
final class PlainMoon {
    private static final int NONE = -1;

    private static final class Notch {
        final int from;
        final int to;
        final int height;

        Notch(int from, int to, int height) {
            this.from = from;
            this.to = to;
            this.height = height;
        }
    }

    private static final class All implements Cloneable {
        int[] asked = {0, 0, 0, 3};
        List<Notch> notches = new ArrayList<>();
        List<Integer> stones = new ArrayList<>();
        List<Integer> clouds = new ArrayList<>();
        int today;
        int looks;
        int seed = 1;

        All copy() {
            All other = new All();
            other.asked = asked.clone();
            other.notches = new ArrayList<>(notches);
            other.stones = new ArrayList<>(stones);
            other.clouds = new ArrayList<>(clouds);
            other.today = today;
            other.looks = looks;
            other.seed = seed;
            return other;
        }
    }

    private interface OnDay {
        boolean isSo(int day);
    }

    private interface Size {
        int of(int day);
    }

    private All all = new All();
    private All kept;
    private final List<Integer> tape = new ArrayList<>();
    // A ROW: its elements, and its SORT; an EVENING: null, and 10 and its KIND.
    private final long[][] rows = new long[8][];
    private final int[] what = {NONE, NONE, NONE, NONE, NONE, NONE, NONE, NONE};
    private final int[] days = new int[8];
    private final int[] refused = new int[7];

    private int no(int number) {
        refused[-number]++;
        return number;
    }

    private static boolean in(long v, long least, long most) {
        return least <= v && v <= most;
    }

    private static boolean day(int d) {
        return in(d, 0, 9999);
    }

    private static boolean span(int f, int t) {
        return in(f, 0, 1439) && in(t, 0, 1439) && f <= t;
    }

    private static int mod(long v, int m) {
        return (int) (((v % m) + m) % m);
    }

    // ---- SHELVES

    int row(int s, int sort, int n) {
        if (!in(s, 0, 7) || !in(sort, 0, 4) || !in(n, 0, 40)) {
            return no(-2);
        }
        rows[s] = new long[n];
        what[s] = sort;
        return 1;
    }

    private int rowNo(int s) {
        return what[s] >= 10 ? -3 : what[s] == NONE ? -4 : 0;
    }

    int set(int s, int i, long v) {
        if (!in(s, 0, 7)) {
            return no(-2);
        }
        if (rowNo(s) != 0) {
            return no(rowNo(s));
        }
        if (i < 0 || i >= rows[s].length) {
            return no(-2);
        }
        long[] cut = {(byte) v, (short) v, (int) v, v, v != 0 ? 1 : 0};
        rows[s][i] = cut[what[s]];
        return 1;
    }

    int copy(int p, int q, int i, int j, int n) {
        if (!in(p, 0, 7) || !in(q, 0, 7)) {
            return no(-2);
        }
        if (what[p] >= 10 || what[q] >= 10 || what[p] != NONE && what[q] != NONE && what[p] != what[q]) {
            return no(-3);
        }
        if (what[p] == NONE || what[q] == NONE) {
            return no(-4);
        }
        if (n < 0 || i < 0 || j < 0 || (long) i + n > rows[p].length || (long) j + n > rows[q].length) {
            return no(-2);
        }
        long[] were = rows[p].clone();
        for (int k = 0; k < n; k++) {
            rows[q][j + k] = were[i + k];
        }
        return n;
    }

    long element(int s, int i) {
        return in(s, 0, 7) && rowNo(s) == 0 && i >= 0 && i < rows[s].length ? rows[s][i] : 0;
    }

    int holds(int s) {
        return in(s, 0, 7) ? what[s] : NONE;
    }

    int evening(int s, int kind, int d) {
        if (!in(s, 0, 7) || !in(kind, 0, 5) || !day(d)) {
            return no(-2);
        }
        what[s] = 10 + kind;
        rows[s] = null;
        days[s] = d;
        return 1;
    }

    int says(int s, int kind) {
        if (!in(s, 0, 7) || !in(kind, 0, 5)) {
            return no(-2);
        }
        if (what[s] == NONE) {
            return no(-4);
        }
        int[] over = {NONE, 0, 1, 0, 0, 1};
        boolean under = false;
        for (int k = what[s] - 10; k >= 0; k = over[k]) {
            under |= k == kind;
        }
        if (!under) {
            return no(-3);
        }
        int d = days[s];
        int[] said = {d, Math.abs(age(d) - 1476), d == 9999 ? 0 : later(d), 28 - out(d), age(d), shining(d, 1320, 1439)};
        return said[kind];
    }

    int isSo(int s) {
        if (!in(s, 0, 7)) {
            return no(-2);
        }
        if (what[s] < 10) {
            return no(what[s] == NONE ? -4 : -3);
        }
        return kindIsSo(days[s], what[s] - 10) ? 1 : 0;
    }

    // ---- how it all stands

    int ask(int which, int v) {
        if (!in(which, 0, 3) || v < 0 || v > (which == 3 ? 9 : 9999)) {
            return no(-2);
        }
        int was = all.asked[which];
        all.asked[which] = v;
        return was;
    }

    int notch(int from, int to, int height) {
        if (!in(from, 0, 179) || !in(to, 0, 179) || from > to || !in(height, 0, 30)) {
            return no(-2);
        }
        if (all.notches.size() == 8) {
            return no(-6);
        }
        all.notches.add(new Notch(from, to, height));
        return all.notches.size() - 1;
    }

    int stone(int degree) {
        if (!in(degree, 0, 179)) {
            return no(-2);
        }
        if (all.stones.size() == 6) {
            return no(-6);
        }
        all.stones.add(degree);
        return all.stones.size() - 1;
    }

    int cloud(int d) {
        if (!day(d)) {
            return no(-2);
        }
        if (all.clouds.contains(d)) {
            return no(-5);
        }
        if (all.clouds.size() == 8) {
            return no(-6);
        }
        all.clouds.add(d);
        return all.clouds.size();
    }

    int clear(int which) {
        if (!in(which, 0, 2)) {
            return no(-2);
        }
        List<?> list = which == 0 ? all.notches : which == 1 ? all.stones : all.clouds;
        int were = list.size();
        list.clear();
        return were;
    }

    int feed(int letter) {
        if (!in(letter, 0, 255)) {
            return no(-2);
        }
        if (tape.size() == 250) {
            return no(-6);
        }
        tape.add(letter);
        return tape.size();
    }

    int wipe() {
        int was = tape.size();
        tape.clear();
        return was;
    }

    // ---- a SKY: all TOKENS first, then the STATEMENTS

    private List<String> tokens = new ArrayList<>();
    private List<Integer> begins = new ArrayList<>();

    private void split() {
        tokens = new ArrayList<>();
        begins = new ArrayList<>();
        StringBuilder text = new StringBuilder();
        for (int b : tape) {
            text.append((char) b);
        }
        String rest = text.toString();
        int at = 0;
        while (at < rest.length()) {
            int to = at + 1;
            String set = Character.toString(rest.charAt(at));
            String same = set.matches("[a-z]") ? "[a-z]" : set.matches("[0-9]") ? "[0-9]" : null;
            while (same != null && to < rest.length() && rest.substring(to, to + 1).matches(same)) {
                to++;
            }
            if (rest.charAt(at) != ' ') {
                tokens.add(rest.substring(at, to));
                begins.add(at);
            }
            at = to;
        }
        tokens.add("");
        begins.add(rest.length());
    }

    int sky() {
        split();
        All next = all.copy();
        int fault = NONE;
        int count = 0;
        int t = 0;
        while (fault == NONE) {
            int used = statement(next, t);
            if (used < 0) {
                fault = begins.get(t - used - 1);
                break;
            }
            count++;
            t += used;
            if (tokens.get(t).isEmpty()) {
                break;
            }
            if (!tokens.get(t).equals(";")) {
                fault = begins.get(t);
            }
            t++;
        }
        tape.clear();
        if (fault != NONE) {
            no(-2);
            return -20 - fault;
        }
        all = next;
        return count;
    }

    /** How many TOKENS it has; below 0: -1 and less by the number of that at fault. */
    private int statement(All next, int t) {
        String word = tokens.get(t);
        switch (word) {
            case "off":
            case "node":
            case "swing":
                int v = number(t + 1, 0, 9999);
                if (v == NONE) {
                    return -2;
                }
                next.asked[List.of("off", "node", "swing").indexOf(word)] = v;
                return 2;
            case "notch":
                return notchStatement(next, t);
            case "stone":
                if (next.stones.size() == 6) {
                    return -1;
                }
                int degree = number(t + 1, 0, 179);
                if (degree == NONE) {
                    return -2;
                }
                next.stones.add(degree);
                return 2;
            case "cloud":
                if (next.clouds.size() == 8) {
                    return -1;
                }
                int d = number(t + 1, 0, 9999);
                if (d == NONE || next.clouds.contains(d)) {
                    return -2;
                }
                next.clouds.add(d);
                return 2;
            default:
                return -1;
        }
    }

    private int notchStatement(All next, int t) {
        if (next.notches.size() == 8) {
            return -1;
        }
        int from = number(t + 1, 0, 179);
        if (from == NONE) {
            return -2;
        }
        int to = number(t + 2, from, 179);
        if (to == NONE) {
            return -3;
        }
        int height = number(t + 3, 0, 30);
        if (height == NONE) {
            return -4;
        }
        next.notches.add(new Notch(from, to, height));
        return 4;
    }

    private int number(int t, int least, int most) {
        if (t >= tokens.size() || !tokens.get(t).matches("[0-9]{1,4}")) {
            return NONE;
        }
        int v = Integer.parseInt(tokens.get(t));
        return in(v, least, most) ? v : NONE;
    }

    // ---- the moon

    private int age(int d) {
        return mod(100L * d + all.asked[0], 2953);
    }

    private int lit(int d) {
        int age = age(d);
        return age <= 1476 ? 100 * age / 1476 : 100 * (2953 - age) / 1477;
    }

    private int out(int d) {
        int s = mod(all.asked[2] + d, 6793);
        return s <= 3396 ? 18 + s * 10 / 3396 : 18 + (6793 - s) * 10 / 3397;
    }

    private int slantOn(int d) {
        int t = mod(100L * d + all.asked[1], 2732);
        int times = t <= 683 ? t : t <= 2049 ? 1366 - t : t - 2732;
        return out(d) * times / 683;
    }

    private int rise(int d) {
        return mod(360 + age(d) * 1440 / 2953 - 3 * slantOn(d), 1440);
    }

    private int way(int d) {
        return 90 - 2 * slantOn(d);
    }

    private int skyLine(int degree) {
        int greatest = 0;
        for (Notch notch : all.notches) {
            if (in(degree, notch.from, notch.to)) {
                greatest = Math.max(greatest, notch.height);
            }
        }
        return greatest;
    }

    private int over(int d) {
        int way = way(d);
        int m = 0;
        while (m / 5 < skyLine(way + m / 4)) {
            m++;
        }
        return m;
    }

    private int up(int d) {
        return mod(rise(d) + over(d), 1440);
    }

    private int atUp(int d) {
        return way(d) + over(d) / 4;
    }

    private int later(int d) {
        return mod(up(d + 1) - up(d), 1440);
    }

    private int behindOn(int d) {
        int m = over(d) - 1;
        if (m < 0) {
            return NONE;
        }
        int degree = way(d) + m / 4;
        for (int i = 0; i < all.notches.size(); i++) {
            Notch notch = all.notches.get(i);
            if (in(degree, notch.from, notch.to) && notch.height == skyLine(degree)) {
                return i;
            }
        }
        throw new IllegalStateException("behind nothing");
    }

    private int shining(int d, int f, int t) {
        int up = up(d);
        int count = 0;
        for (int m = f; m <= t; m++) {
            if (mod(m - up, 1440) <= 599) {
                count++;
            }
        }
        return count;
    }

    private int lightOn(int d, int f, int t) {
        return shining(d, f, t) * lit(d) / 100;
    }

    private boolean kindIsSo(int d, int kind) {
        boolean full = in(age(d), 1427, 1526);
        switch (kind) {
            case 0:
                return true;
            case 2:
                return full && d != 9999 && later(d) <= 30;
            case 3:
                return out(d) == 28;
            case 4:
                return in(age(d), 0, 99);
            default:
                return full;
        }
    }

    int notchOf(int notch, int which) {
        if (notch < 0 || notch >= all.notches.size() || !in(which, 0, 2)) {
            return no(-2);
        }
        Notch it = all.notches.get(notch);
        return new int[] {it.from, it.to, it.height}[which];
    }

    int stoneOf(int stone) {
        return stone < 0 || stone >= all.stones.size() ? no(-2) : all.stones.get(stone);
    }

    int line(int degree) {
        return in(degree, 0, 999) ? skyLine(degree) : no(-2);
    }

    int moon(int d, int which) {
        if (!day(d) || !in(which, 0, 8) || which == 7 && d == 9999) {
            return no(-2);
        }
        int later = d == 9999 ? 0 : later(d);
        return new int[] {age(d), lit(d), out(d), rise(d), way(d), over(d), up(d), later, atUp(d)}[which];
    }

    int slant(int d) {
        return day(d) ? slantOn(d) : -1000000 + no(-2);
    }

    int behind(int d) {
        return day(d) ? behindOn(d) : no(-2);
    }

    int is(int d, int kind) {
        return !day(d) || !in(kind, 0, 5) ? no(-2) : kindIsSo(d, kind) ? 1 : 0;
    }

    int shines(int d, int f, int t) {
        return day(d) && span(f, t) ? shining(d, f, t) : no(-2);
    }

    int light(int d, int f, int t) {
        return day(d) && span(f, t) ? lightOn(d, f, t) : no(-2);
    }

    // ---- which DAYS

    private static List<Integer> daysOf(int d, long n, OnDay fits) {
        List<Integer> found = new ArrayList<>();
        for (int k = d; k < d + n && k <= 9999; k++) {
            if (fits.isSo(k)) {
                found.add(k);
            }
        }
        return found;
    }

    private static int first(int d, OnDay fits) {
        List<Integer> found = daysOf(d, 1000, fits);
        return found.isEmpty() ? NONE : found.get(0);
    }

    private int ith(List<Integer> found, int i) {
        return i == NONE ? found.size() : i < found.size() ? found.get(i) : no(-5);
    }

    private static int best(int d, int n, Size size) {
        int best = d;
        for (int k = d; k < d + n && k <= 9999; k++) {
            if (size.of(k) > size.of(best)) {
                best = k;
            }
        }
        return best;
    }

    private static boolean days(int d, int n) {
        return day(d) && in(n, 1, 1000);
    }

    int next(int d, int kind) {
        return day(d) && in(kind, 0, 5) ? first(d, k -> kindIsSo(k, kind)) : no(-2);
    }

    int many(int d, int n, int kind) {
        return days(d, n) && in(kind, 0, 5) ? daysOf(d, n, k -> kindIsSo(k, kind)).size() : no(-2);
    }

    int between(int d, int n, int a, int b, int i) {
        if (!days(d, n) || !in(a, 0, 999) || !in(b, 0, 999) || a > b || i < -1) {
            return no(-2);
        }
        return ith(daysOf(d, n, k -> in(atUp(k), a, b)), i);
    }

    int alike(int d) {
        return in(d, 0, 9991) ? best(d, 8, k -> -later(k)) : no(-2);
    }

    int farthest(int d, int n) {
        return days(d, n) ? best(d, n, k -> Math.abs(slantOn(k))) : no(-2);
    }

    int grows(int d) {
        return day(d) ? age(d) <= 1476 ? 1 : 0 : no(-2);
    }

    int lights(int d, int n, int f, int t) {
        if (!day(d) || !in(n, 1, 40) || !span(f, t)) {
            return no(-2);
        }
        int sum = 0;
        for (int k : daysOf(d, n, any -> true)) {
            sum += lightOn(k, f, t);
        }
        return sum;
    }

    int soonest(int d, int n) {
        return days(d, n) ? best(d, n, k -> -over(k)) : no(-2);
    }

    int brightest(int d, int n) {
        return days(d, n) ? best(d, n, k -> lightOn(k, 1200, 1439)) : no(-2);
    }

    int walks(int d, int n, int f, int t, int x, int i) {
        if (!days(d, n) || !span(f, t) || !in(x, 0, 1440) || i < -1) {
            return no(-2);
        }
        return ith(daysOf(d, n, k -> shining(k, f, t) >= x), i);
    }

    int overs(int d, int n, int notch, int i) {
        if (!days(d, n) || notch < 0 || notch >= all.notches.size() || i < -1) {
            return no(-2);
        }
        return ith(daysOf(d, n, k -> behindOn(k) == notch), i);
    }

    int lates(int d, int n, int which) {
        if (!days(d, n) || !in(which, 0, 2)) {
            return no(-2);
        }
        if (d == 9999) {
            return no(-5);
        }
        int least = 1440;
        int greatest = -1;
        int sum = 0;
        for (int k : daysOf(d, n, each -> each <= 9998)) {
            least = Math.min(least, later(k));
            greatest = Math.max(greatest, later(k));
            sum += later(k);
        }
        return new int[] {least, greatest, sum}[which];
    }

    int date(int d) {
        if (!day(d)) {
            return no(-2);
        }
        for (int k = d; k >= 0; k--) {
            if (kindIsSo(k, 4)) {
                return d - k + 1;
            }
        }
        return no(-5);
    }

    int months(int d) {
        return day(d) ? daysOf(0, d + 1, k -> kindIsSo(k, 4)).size() : no(-2);
    }

    int eclipse(int d) {
        if (!day(d)) {
            return no(-2);
        }
        return first(d, k -> {
            int far = mod(100L * k + all.asked[1], 1366);
            return kindIsSo(k, 1) && (far <= 80 || far >= 1286);
        });
    }

    int sees(int d, int m, int which) {
        if (!day(d) || !in(m, 0, 1439) || !in(which, 0, 1)) {
            return no(-2);
        }
        int gone = mod(m - rise(d), 1440);
        return gone > 600 ? no(-5) : which == 0 ? gone / 5 : way(d) + gone / 4;
    }

    int picture(int s, int d, int which) {
        if (!in(s, 0, 7) || !day(d) || !in(which, 0, 1)) {
            return no(-2);
        }
        if (rowNo(s) != 0) {
            return no(rowNo(s));
        }
        long[] r = rows[s];
        if (r.length < 8 || !in(r[7], 1, 1000) || !in(r[6], 0, 1439)) {
            return no(-2);
        }
        List<Integer> found = daysOf(d, r[7], k -> {
            int gone = mod(r[6] - rise(k), 1440);
            return gone <= 600 && in(lit(k), r[0], r[1]) && in(way(k) + gone / 4, r[2], r[3]) && in(gone / 5, r[4], r[5]);
        });
        return which == 0 ? found.size() : found.isEmpty() ? no(-5) : found.get(0);
    }

    int seen(int d, int eyes) {
        if (!day(d) || !in(eyes, 0, 50)) {
            return no(-2);
        }
        return first(d, k -> in(age(k), 150 - eyes, 1476) && !all.clouds.contains(k));
    }

    private boolean could(long d) {
        return in(d, 0, 9999) && in(age((int) d), 100, 400);
    }

    private int rowNo(int s, int n, int most) {
        if (!in(s, 0, 7) || !in(n, 1, 40) || most < 0) {
            return -2;
        }
        return rowNo(s) != 0 ? rowNo(s) : rows[s].length < n ? -2 : 0;
    }

    int court(int s, int n) {
        if (rowNo(s, n, 0) != 0) {
            return no(rowNo(s, n, 0));
        }
        int best = NONE;
        int most = 0;
        for (int i = 0; i < n; i++) {
            int told = 0;
            for (int j = 0; j < n; j++) {
                told += rows[s][i] == rows[s][j] ? 1 : 0;
            }
            if (could(rows[s][i]) && told > most) {
                most = told;
                best = (int) rows[s][i];
            }
        }
        return best;
    }

    int eager(int s, int n) {
        if (rowNo(s, n, 0) != 0) {
            return no(rowNo(s, n, 0));
        }
        int count = 0;
        for (int i = 0; i < n; i++) {
            count += could(rows[s][i]) ? 0 : 1;
        }
        return count;
    }

    int tide(int d, int m) {
        if (!day(d) || !in(m, 0, 1439)) {
            return no(-2);
        }
        int k = 1440;
        for (int water = rise(d) + 180 - 4 * 720; water < 4 * 720; water += 720) {
            k = Math.min(k, Math.abs(m - water));
        }
        return 50 + Math.abs(lit(d) - 50) * (180 - k) / 180;
    }

    int high(int d) {
        if (!day(d)) {
            return no(-2);
        }
        int water = mod(rise(d) + 180, 1440);
        return water >= 720 ? water - 720 : water;
    }

    int bone(int s, int n, int which) {
        int refusal = rowNo(s, n, in(which, 0, 2) ? 0 : -1);
        if (refusal != 0) {
            return no(refusal);
        }
        int count = 0;
        int longest = 0;
        int run = 0;
        int months = 0;
        for (int i = 0; i < n; i++) {
            boolean good = in(rows[s][i], 29, 30);
            run = good ? run + 1 : 0;
            count += good ? 1 : 0;
            longest = Math.max(longest, run);
            if (i >= 2) {
                BigInteger sum = BigInteger.valueOf(rows[s][i]).add(BigInteger.valueOf(rows[s][i - 1]))
                    .add(BigInteger.valueOf(rows[s][i - 2]));
                months += sum.equals(BigInteger.valueOf(88)) || sum.equals(BigInteger.valueOf(89)) ? 1 : 0;
            }
        }
        return new int[] {count, longest, months}[which];
    }

    private boolean hit(int degree, int d, int n, int w) {
        return !daysOf(d, n, k -> Math.abs(atUp(k) - degree) <= w).isEmpty();
    }

    int hits(int d, int n, int w) {
        if (!days(d, n) || !in(w, 0, 20)) {
            return no(-2);
        }
        int bits = 0;
        for (int i = 0; i < all.stones.size(); i++) {
            bits += hit(all.stones.get(i), d, n, w) ? 1 << i : 0;
        }
        return bits;
    }

    int chance(int d, int n, int w) {
        if (!days(d, n) || !in(w, 0, 20)) {
            return no(-2);
        }
        int count = 0;
        for (int degree = 0; degree <= 179; degree++) {
            count += hit(degree, d, n, w) ? 1 : 0;
        }
        return count;
    }

    int meets(int stone, int d, int w) {
        if (stone < 0 || stone >= all.stones.size() || !day(d) || !in(w, 0, 20)) {
            return no(-2);
        }
        return first(d, k -> Math.abs(atUp(k) - all.stones.get(stone)) <= w);
    }

    int place(int d, int n, int w) {
        if (!day(d) || !in(n, 1, 40) || !in(w, 0, 20)) {
            return no(-2);
        }
        int best = 0;
        int most = -1;
        for (int degree = 0; degree <= 179; degree++) {
            int here = degree;
            int count = daysOf(d, n, k -> Math.abs(atUp(k) - here) <= w).size();
            if (count > most) {
                most = count;
                best = degree;
            }
        }
        return best;
    }

    int meant(int d, int n, int w) {
        if (!days(d, n) || !in(w, 0, 20)) {
            return -1000000 + no(-2);
        }
        if (all.stones.isEmpty()) {
            return -1000000 + no(-5);
        }
        return Integer.bitCount(hits(d, n, w)) * 1000 / all.stones.size() - chance(d, n, w) * 1000 / 180;
    }

    int told(int d, int v) {
        if (!day(d) || !in(v, 0, 2952)) {
            return no(-2);
        }
        all.asked[0] = 0;
        while (age(d) != v) {
            all.asked[0]++;
        }
        return all.asked[0];
    }

    // ---- in truth

    int goes() {
        if (all.today == 9999) {
            return no(-5);
        }
        all.seed = all.seed * 1103515245 + 12345;
        int draw = ((all.seed >> 16) & 0xffff) % 10;
        boolean clear = draw >= all.asked[3];
        if (clear && shining(all.today, 1080, 1439) > 0) {
            all.looks++;
        }
        all.today++;
        return clear ? 1 : 0;
    }

    int looks(int n) {
        if (!in(n, 1, 40)) {
            return no(-2);
        }
        for (int i = 0; i < n; i++) {
            if (all.today < 9999) {
                goes();
            }
        }
        return all.looks;
    }

    int seed(int v) {
        int was = all.seed;
        all.seed = v;
        return was;
    }

    int image() {
        kept = all.copy();
        return 1;
    }

    int back() {
        if (kept == null) {
            return no(-5);
        }
        all = kept.copy();
        return 1;
    }

    int status(int which) {
        int used = 0;
        for (int it : what) {
            used += it == NONE ? 0 : 1;
        }
        int[] told = {
            all.notches.size(), all.stones.size(), all.clouds.size(), all.asked[0], all.asked[1], all.asked[2],
            all.asked[3], all.today, all.looks, tape.size(), all.seed, used,
            refused[2], refused[3], refused[4], refused[5], refused[6]
        };
        return which >= 0 && which < told.length ? told[which] : NONE;
    }
}
