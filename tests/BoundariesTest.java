import java.util.ArrayList;
import java.util.List;

/**
 * Each sentence of the document that names a boundary case, in the document's order, each on new
 * objects: too small, too large, empty, full, wrapping around, refused. What is refused is tried on
 * one of two objects that are alike, and the two must answer alike from then on.
 */
public final class BoundariesTest {
    private static final int NONE = -1;
    private static final int BAD = -2;
    private static final int OTHER = -3;
    private static final int NOTHING = -4;
    private static final int STUCK = -5;
    private static final int FULL = -6;
    private static final int FAR_BELOW = -1000000;
    private static final int LEAST = Integer.MIN_VALUE;
    private static final int MOST = Integer.MAX_VALUE;

    private interface Act {
        long on(MoonOverTheHill m);
    }

    private interface ActWith {
        long on(MoonOverTheHill m, int v);
    }

    private static String sentence;
    private static int wrong;
    private static int cases;

    /** The object that the sentence at hand is tried on. */
    private static MoonOverTheHill x;

    /** What is done to the objects that refusals are tried on, beyond what is done to all of them. */
    private static Act more;

    private static void on(String words) {
        sentence = words;
        cases++;
        x = new MoonOverTheHill();
        more = m -> 0;
    }

    private static void fault(String text) {
        wrong++;
        StackTraceElement[] trace = new Throwable().getStackTrace();
        int at = 1;
        while (at < trace.length - 1 && !trace[at].getMethodName().startsWith("of")) {
            at++;
        }
        System.out.println("line " + trace[at].getLineNumber() + ", '" + sentence + "': " + text);
    }

    private static void due(long want, long got) {
        if (want != got) {
            fault("answered " + got + ", due is " + want);
        }
    }

    private static void all(long want, long... got) {
        for (int i = 0; i < got.length; i++) {
            if (want != got[i]) {
                fault("number " + i + " answered " + got[i] + ", due is " + want);
            }
        }
    }

    // ---- what is refused, and what is not

    /** One that has some of all, something kept, and some REFUSALS. */
    private static MoonOverTheHill prepared() {
        MoonOverTheHill m = new MoonOverTheHill();
        m.notch(60, 99, 9);
        m.notch(90, 120, 14);
        m.stone(70);
        m.stone(111);
        m.cloud(2);
        m.cloud(40);
        m.ask(0, 1400);
        m.image();
        m.ask(1, 600);
        m.ask(2, 3000);
        m.ask(3, 5);
        m.stone(90);
        m.looks(7);
        feed(m, "off 7");
        row(m, 0, 2, 0, 100, 0, 999, 0, 200, 500, 60);
        row(m, 1, 0, 29, 30, 29);
        row(m, 4, 3, 5, 5, 6, 1L << 40);
        m.evening(2, 2, 15);
        m.feed(256);
        m.isSo(0);
        m.isSo(3);
        m.cloud(2);
        more.on(m);
        return m;
    }

    private static void row(MoonOverTheHill m, int s, int sort, long... elements) {
        m.row(s, sort, elements.length);
        for (int i = 0; i < elements.length; i++) {
            m.set(s, i, elements[i]);
        }
    }

    private static void feed(MoonOverTheHill m, String text) {
        for (int i = 0; i < text.length(); i++) {
            m.feed(text.charAt(i));
        }
    }

    private static int skyOf(String text) {
        feed(x, text);
        return x.sky();
    }

    /** All that can be told of an object but its REFUSALS; it is used up by that. */
    private static List<Long> probe(MoonOverTheHill m) {
        List<Long> told = new ArrayList<>();
        for (int s = 0; s < 8; s++) {
            told.add((long) m.holds(s));
            for (int i = 0; i < 9; i++) {
                told.add(m.element(s, i));
            }
            told.add((long) m.says(s, 0));
        }
        tellState(m, told);
        told.add((long) m.cloud(2));
        told.add((long) m.cloud(40));
        told.add((long) m.cloud(41));
        told.add((long) m.sky());
        told.add((long) m.status(3));
        told.add((long) m.back());
        tellState(m, told);
        told.add((long) m.goes());
        told.add((long) m.status(10));
        return told;
    }

    private static void tellState(MoonOverTheHill m, List<Long> told) {
        for (int what = 0; what < 12; what++) {
            told.add((long) m.status(what));
        }
        for (int i = 0; i < m.status(0); i++) {
            told.add((long) m.notchOf(i, 0));
            told.add((long) m.notchOf(i, 1));
            told.add((long) m.notchOf(i, 2));
        }
        for (int i = 0; i < m.status(1); i++) {
            told.add((long) m.stoneOf(i));
        }
        told.add((long) m.line(90));
    }

    /** Each call is refused by this number and answers so; nothing changes but how many there were. */
    private static void refused(int number, long answer, Act... acts) {
        for (int k = 0; k < acts.length; k++) {
            MoonOverTheHill one = prepared();
            MoonOverTheHill twin = prepared();
            long got = acts[k].on(one);
            if (got != answer) {
                fault("call " + k + " answered " + got + ", due is " + answer);
            }
            for (int what = 12; what <= 16; what++) {
                int want = twin.status(what) + (what == 10 - number ? 1 : 0);
                if (one.status(what) != want) {
                    fault("call " + k + ": REFUSALS " + (10 - what) + " are " + one.status(what) + ", due are " + want);
                }
            }
            List<Long> told = probe(one);
            List<Long> due = probe(twin);
            if (!told.equals(due)) {
                fault("call " + k + " changed something: " + told + ", due is " + due);
            }
        }
    }

    private static void bad(Act... acts) {
        refused(BAD, BAD, acts);
    }

    private static void taken(Act... acts) {
        for (int k = 0; k < acts.length; k++) {
            MoonOverTheHill one = prepared();
            int before = refusalsOf(one);
            long got = acts[k].on(one);
            if (refusalsOf(one) != before) {
                fault("call " + k + " was refused: " + got);
            }
        }
    }

    private static int refusalsOf(MoonOverTheHill m) {
        int sum = 0;
        for (int what = 12; what <= 16; what++) {
            sum += m.status(what);
        }
        return sum;
    }

    /** v may be from least to most: the ends are taken, what lies beyond answers so and is BAD. */
    private static void mayBe(int least, int most, int answer, ActWith act) {
        taken(m -> act.on(m, least), m -> act.on(m, most));
        refused(BAD, answer, m -> act.on(m, least - 1), m -> act.on(m, most + 1), m -> act.on(m, LEAST),
            m -> act.on(m, MOST));
    }

    private static void mayBe(int least, int most, ActWith act) {
        mayBe(least, most, BAD, act);
    }

    private static void isDay(ActWith act) {
        mayBe(0, 9999, act);
    }

    public static void main(String[] args) {
        ofDays();
        ofHowItStands();
        ofSums();
        ofRiseAndWay();
        ofNotches();
        ofOver();
        ofBehind();
        ofStaysUp();
        ofStones();
        ofTape();
        ofTokens();
        ofFaults();
        ofFaultsOfNotches();
        ofNoRoomInASky();
        ofKinds();
        ofLater();
        ofMinutes();
        ofNumberOfDays();
        ofNext();
        ofBetween();
        ofBestDays();
        ofPictures();
        ofPictureRows();
        ofSeen();
        ofCourt();
        ofTides();
        ofBones();
        ofStonesThatHit();
        ofMeant();
        ofDraws();
        ofLooks();
        ofShelves();
        ofCutElements();
        ofCopies();
        ofHolds();
        ofEvenings();
        ofSaying();
        ofBeingSo();
        ofClouds();
        ofClearing();
        ofThings();
        ofMoon();
        ofWalks();
        ofOvers();
        ofLates();
        ofDates();
        ofEclipses();
        ofSeeing();
        ofRowsTooShort();
        ofTold();
        ofSeed();
        ofKeeping();
        ofStatus();
        System.out.println(wrong == 0 ? "all answers are as due, " + cases + " sentences" : wrong + " are not as due");
        if (wrong != 0) {
            System.exit(1);
        }
    }

    // ==== 1. THE MOON

    private static void ofDays() {
        on("DAYS are 0 to 9999");
        isDay((m, d) -> m.evening(3, 0, d));
        isDay((m, d) -> m.cloud(d));
        isDay((m, d) -> m.moon(d, 0));
        mayBe(0, 9999, FAR_BELOW + BAD, (m, d) -> m.slant(d));
        isDay((m, d) -> m.behind(d));
        isDay((m, d) -> m.is(d, 2));
        isDay((m, d) -> m.shines(d, 0, 1439));
        isDay((m, d) -> m.light(d, 0, 1439));
        isDay((m, d) -> m.next(d, 1));
        isDay((m, d) -> m.many(d, 1000, 1));
        isDay((m, d) -> m.between(d, 1000, 0, 999, NONE));
        isDay((m, d) -> m.farthest(d, 1000));
        isDay((m, d) -> m.grows(d));
        isDay((m, d) -> m.lights(d, 40, 0, 1439));
        isDay((m, d) -> m.soonest(d, 1000));
        isDay((m, d) -> m.brightest(d, 1000));
        isDay((m, d) -> m.walks(d, 1000, 0, 1439, 0, NONE));
        isDay((m, d) -> m.overs(d, 1000, 0, NONE));
        isDay((m, d) -> m.months(d));
        isDay((m, d) -> m.eclipse(d));
        isDay((m, d) -> m.picture(0, d, 0));
        isDay((m, d) -> m.seen(d, 50));
        isDay((m, d) -> m.tide(d, 0));
        isDay((m, d) -> m.high(d));
        isDay((m, d) -> m.hits(d, 1000, 20));
        isDay((m, d) -> m.chance(d, 1000, 20));
        isDay((m, d) -> m.meets(0, d, 20));
        isDay((m, d) -> m.place(d, 40, 20));
        mayBe(0, 9999, FAR_BELOW + BAD, (m, d) -> m.meant(d, 1000, 20));
        isDay((m, d) -> m.told(d, 0));
        // On these a DAY may be STUCK for another reason at one end.
        bad(m -> m.lates(-1, 1, 0), m -> m.lates(10000, 1, 0), m -> m.lates(LEAST, 1, 0), m -> m.lates(MOST, 1, 0));
        taken(m -> m.lates(0, 1, 0), m -> m.lates(9998, 1000, 0));
        bad(m -> m.date(-1), m -> m.date(10000), m -> m.date(LEAST), m -> m.date(MOST));
        taken(m -> m.date(9999));
        bad(m -> m.sees(-1, 0, 0), m -> m.sees(10000, 0, 0), m -> m.sees(LEAST, 0, 0), m -> m.sees(MOST, 0, 0));
        taken(m -> m.sees(0, m.moon(0, 3), 0), m -> m.sees(9999, m.moon(9999, 3), 1));
        on("alike: BAD: above 9991");
        mayBe(0, 9991, (m, d) -> m.alike(d));
    }

    private static void ofHowItStands() {
        on("OFF, NODE, SWING: 0 at first");
        all(0, x.status(3), x.status(4), x.status(5));
        on("OFF, NODE, SWING: 0 to 9999 each");
        mayBe(0, 9999, (m, v) -> m.ask(0, v));
        mayBe(0, 9999, (m, v) -> m.ask(1, v));
        mayBe(0, 9999, (m, v) -> m.ask(2, v));
        on("CLOUD: 0 to 9; 3 at first");
        due(3, x.status(6));
        mayBe(0, 9, (m, v) -> m.ask(3, v));
        on("ask: OFF (what 0), NODE (1), SWING (2), CLOUD (3)");
        mayBe(0, 3, (m, what) -> m.ask(what, 9));
        on("ask: becomes v: what it was");
        for (int what = 0; what < 4; what++) {
            int most = what == 3 ? 9 : 9999;
            due(what == 3 ? 3 : 0, x.ask(what, most));
            due(most, x.ask(what, 0));
            due(0, x.status(3 + what));
        }
    }

    private static void ofSums() {
        on("AGE: 100 times the DAY, and OFF, modulo 2953");
        x.ask(0, 2952);
        due(2952, x.moon(0, 0));
        due(99, x.moon(1, 0));
        x.ask(0, 2953);
        due(0, x.moon(0, 0));
        x.ask(0, 9999);
        due((999900 + 9999) % 2953, x.moon(9999, 0));
        on("LIT: if AGE is 1476 at most; else");
        int[] ages = {0, 14, 15, 1475, 1476, 1477, 1491, 1492, 2938, 2939, 2952};
        int[] lits = {0, 0, 1, 99, 100, 99, 98, 98, 1, 0, 0};
        for (int i = 0; i < ages.length; i++) {
            x.ask(0, ages[i]);
            due(lits[i], x.moon(0, 1));
        }
        on("OUT: if s is 3396 at most; else");
        int[] swings = {0, 339, 340, 3395, 3396, 3397, 3735, 3736, 6453, 6454, 6792, 6793, 6793 + 340, 9999};
        int[] outs = {18, 18, 19, 27, 28, 27, 27, 26, 19, 18, 18, 18, 19, 27};
        for (int i = 0; i < swings.length; i++) {
            x.ask(2, swings[i]);
            due(outs[i], x.moon(0, 2));
        }
        on("OUT: SWING and the DAY, modulo 6793");
        x.ask(2, 6792);
        due(18, x.moon(1, 2));
        due(18, x.moon(340, 2));
        due(19, x.moon(341, 2));
        on("SLANT: straight between 0, up to 1 (t 683), down to -1 (t 2049) and back to 0");
        int[] nodes = {0, 24, 25, 682, 683, 684, 707, 708, 1341, 1342, 1365, 1366, 1367, 1390, 1391, 2048, 2049, 2050,
            2707, 2708, 2731, 2732, 2733};
        int[] slants = {0, 0, 1, 27, 28, 27, 27, 26, 1, 0, 0, 0, 0, 0, -1, -27, -28, -27, -1, 0, 0, 0, 0};
        x.ask(2, 3396);
        for (int i = 0; i < nodes.length; i++) {
            x.ask(1, nodes[i]);
            due(slants[i], x.slant(0));
        }
        on("SLANT: 100 times the DAY, and NODE, modulo 2732");
        // OUT 18: t 2731 is cut to 0, t 99 to 2.
        x.ask(1, 2731);
        due(0, x.slant(0));
        due(2, x.slant(1));
        x.ask(1, 683 + 2732);
        due(18, x.slant(0));
        on("Everything is whole, all cut towards 0");
        // 18 times -37 by 683 lies between -1 and 0, 18 times -38 is the first below -1.
        x.ask(1, 2732 - 37);
        due(0, x.slant(0));
        x.ask(1, 2732 - 38);
        due(-1, x.slant(0));
    }

    private static void ofRiseAndWay() {
        on("RISE: minutes of the day (0 to 1439), modulo 1440");
        int[] ages = {0, 2212, 2213, 2214, 2215, 2952};
        int[] rises = {360, 1438, 1439, 1439, 0, 359};
        for (int i = 0; i < ages.length; i++) {
            x.ask(0, ages[i]);
            due(rises[i], x.moon(0, 3));
        }
        on("RISE: less 3 times SLANT, at both ends of SLANT");
        x.ask(2, 3396);
        x.ask(1, 683);
        due(360 - 84, x.moon(0, 3));
        x.ask(1, 2049);
        due(360 + 84, x.moon(0, 3));
        on("WAY: 34 to 146");
        x.ask(2, 3396);
        x.ask(1, 683);
        due(34, x.moon(0, 4));
        x.ask(1, 2049);
        due(146, x.moon(0, 4));
    }

    private static void ofNotches() {
        on("FROM and TO: 0 to 179");
        mayBe(0, 179, (m, v) -> m.notch(v, 179, 5));
        mayBe(0, 179, (m, v) -> m.notch(0, v, 5));
        on("FROM no more than TO");
        taken(m -> m.notch(7, 7, 5), m -> m.notch(0, 0, 5), m -> m.notch(179, 179, 5));
        bad(m -> m.notch(8, 7, 5), m -> m.notch(1, 0, 5), m -> m.notch(179, 178, 5));
        on("HEIGHT (0 to 30)");
        mayBe(0, 30, (m, v) -> m.notch(0, 5, v));
        on("notch: A NOTCH: its number; NOTCHES, 8 at most; FULL");
        for (int i = 0; i < 8; i++) {
            due(i, x.notch(i, i, i));
        }
        due(FULL, x.notch(0, 0, 0));
        more = m -> notches(m, 6);
        refused(FULL, FULL, m -> m.notch(0, 179, 30));
        on("notch: BAD; FULL");
        more = m -> notches(m, 6);
        bad(m -> m.notch(0, 180, 30), m -> m.notch(-1, 0, 0), m -> m.notch(9, 8, 0), m -> m.notch(0, 1, 31));
        on("SKY LINE: NOTCHES that have it, from FROM to TO");
        x.notch(10, 20, 5);
        due(0, x.line(9));
        due(5, x.line(10));
        due(5, x.line(20));
        due(0, x.line(21));
        on("SKY LINE: the greatest HEIGHT");
        x.notch(10, 20, 5);
        x.notch(20, 30, 6);
        x.notch(20, 20, 4);
        due(5, x.line(19));
        due(6, x.line(20));
        on("SKY LINE: 0: none");
        due(0, x.line(0));
        x.notch(0, 179, 0);
        due(0, x.line(90));
        x.notch(0, 179, 30);
        due(30, x.line(0));
        due(30, x.line(179));
        all(0, x.line(180), x.line(999));
        on("line: a degree (0 to 999)");
        mayBe(0, 999, (m, v) -> m.line(v));
    }

    private static long notches(MoonOverTheHill m, int n) {
        for (int i = 0; i < n; i++) {
            m.notch(100 + i, 110 + i, i);
        }
        return 0;
    }

    private static void ofOver() {
        on("OVER: the least m (0 at least)");
        due(0, x.moon(0, 5));
        x.notch(0, 179, 0);
        due(0, x.moon(0, 5));
        on("OVER: as high as the SKY LINE there at least");
        x.notch(0, 179, 1);
        due(5, x.moon(0, 5));
        x.notch(0, 179, 29);
        due(145, x.moon(0, 5));
        x.notch(0, 179, 30);
        due(150, x.moon(0, 5));
        on("OVER: at WAY and m by 4");
        // WAY 90: for four minutes it is at 90, then at 91.
        x.notch(90, 90, 30);
        due(4, x.moon(0, 5));
        x.notch(91, 91, 1);
        due(5, x.moon(0, 5));
        x.notch(91, 91, 2);
        due(8, x.moon(0, 5));
        on("OVER: as high as the SKY LINE there, not where it was a minute ago");
        // At 20 it is as high as the first, but at 95 by then.
        x.notch(90, 94, 4);
        due(20, x.moon(0, 5));
        x.notch(95, 95, 5);
        due(24, x.moon(0, 5));
        due(96, x.moon(0, 8));
        on("OVER: the SKY LINE behind WAY is nothing to it");
        x.notch(0, 89, 30);
        due(0, x.moon(0, 5));
        on("UP: RISE and OVER, modulo 1440");
        x.notch(0, 179, 1);
        x.ask(0, 2204);
        due(1434, x.moon(0, 3));
        due(1439, x.moon(0, 6));
        x.ask(0, 2205);
        due(1435, x.moon(0, 3));
        due(0, x.moon(0, 6));
        x.ask(0, 2213);
        due(1439, x.moon(0, 3));
        due(4, x.moon(0, 6));
    }

    private static void ofBehind() {
        on("BEHIND: OVER 0: NONE");
        due(NONE, x.behind(0));
        x.notch(0, 179, 0);
        due(NONE, x.behind(0));
        x.notch(0, 89, 30);
        due(NONE, x.behind(0));
        on("BEHIND: the first NOTCH");
        x.notch(90, 90, 1);
        x.notch(0, 179, 2);
        x.notch(0, 179, 2);
        due(1, x.behind(0));
        on("BEHIND: of that HEIGHT there");
        x.notch(0, 90, 2);
        x.notch(0, 179, 1);
        x.notch(91, 179, 2);
        // At minute 9 it is at 92: the first NOTCH is as high, but not there.
        due(10, x.moon(0, 5));
        due(2, x.behind(0));
        on("BEHIND: at m less 1");
        x.notch(90, 90, 3);
        x.notch(91, 91, 0);
        due(4, x.moon(0, 5));
        due(0, x.behind(0));
        on("BEHIND: at m less 1, which may be at the next degree already");
        x.notch(90, 90, 1);
        x.notch(91, 91, 1);
        due(5, x.moon(0, 5));
        due(1, x.behind(0));
        on("behind: NONE isn't refused");
        taken(m -> m.clear(0) + m.behind(0));
    }

    private static void ofStaysUp() {
        on("It stays up 600 minutes; UP 0 to 599 minutes ago");
        due(360, x.moon(0, 6));
        due(0, x.shines(0, 359, 359));
        due(1, x.shines(0, 360, 360));
        due(1, x.shines(0, 959, 959));
        due(0, x.shines(0, 960, 960));
        due(600, x.shines(0, 0, 1439));
        on("It stays up 600 minutes behind OVER");
        x.notch(0, 179, 1);
        due(365, x.moon(0, 6));
        due(0, x.shines(0, 364, 364));
        due(1, x.shines(0, 365, 365));
        due(1, x.shines(0, 964, 964));
        due(0, x.shines(0, 965, 965));
        on("it's up, modulo 1440, by this DAY's UP");
        x.ask(0, 2213);
        due(1439, x.moon(0, 6));
        due(0, x.shines(0, 1438, 1438));
        due(1, x.shines(0, 1439, 1439));
        due(1, x.shines(0, 0, 0));
        due(1, x.shines(0, 598, 598));
        due(0, x.shines(0, 599, 599));
        due(600, x.shines(0, 0, 1439));
        on("it's up, modulo 1440: up till the last minute of the day, and a minute beyond it");
        x.told(0, 983);
        due(839, x.moon(0, 6));
        due(1, x.shines(0, 1438, 1438));
        due(0, x.shines(0, 1439, 1439));
        x.told(0, 985);
        due(840, x.moon(0, 6));
        due(1, x.shines(0, 1439, 1439));
        due(0, x.shines(0, 0, 0));
        x.told(0, 987);
        due(841, x.moon(0, 6));
        due(1, x.shines(0, 0, 0));
        due(0, x.shines(0, 1, 1));
    }

    private static void ofStones() {
        on("STONES: a degree each (0 to 179)");
        mayBe(0, 179, (m, v) -> m.stone(v));
        on("stone: A STONE: its number; STONES, 6 at most; FULL");
        for (int i = 0; i < 6; i++) {
            due(i, x.stone(179 - i));
        }
        due(FULL, x.stone(0));
        more = m -> stones(m, 3);
        refused(FULL, FULL, m -> m.stone(5));
        on("stone: BAD; FULL");
        more = m -> stones(m, 3);
        bad(m -> m.stone(180), m -> m.stone(-1));
    }

    private static long stones(MoonOverTheHill m, int n) {
        for (int i = 0; i < n; i++) {
            m.stone(i);
        }
        return 0;
    }

    private static long clouds(MoonOverTheHill m, int n) {
        for (int i = 0; i < n; i++) {
            m.cloud(100 + i);
        }
        return 0;
    }

    // ==== a SKY

    private static void ofTape() {
        on("THE TAPE is empty at first");
        due(0, x.status(9));
        due(0, x.wipe());
        on("feed: one byte (0 to 255)");
        mayBe(0, 255, (m, v) -> m.feed(v));
        on("feed: its size; THE TAPE: bytes, 250 at most; FULL");
        for (int i = 1; i <= 250; i++) {
            due(i, x.feed(i));
        }
        due(FULL, x.feed(32));
        due(250, x.status(9));
        more = m -> fill(m, 245);
        refused(FULL, FULL, m -> m.feed(32));
        on("feed: BAD; FULL");
        more = m -> fill(m, 245);
        bad(m -> m.feed(256), m -> m.feed(-1));
        on("wipe: THE TAPE is empty: its size ahead");
        fill(x, 250);
        due(250, x.wipe());
        due(0, x.status(9));
        due(0, x.wipe());
        due(1, x.feed(0));
        on("sky: of an empty TAPE");
        due(-20, x.sky());
        due(1, x.status(12));
        on("sky: THE TAPE is empty then, either way");
        due(1, skyOf("off 5"));
        due(0, x.status(9));
        due(-20 - 4, skyOf("off x"));
        due(0, x.status(9));
        due(-20, x.sky());
        on("sky: of a full TAPE");
        due(1, skyOf("off 5" + " ".repeat(245)));
        due(5, x.status(3));
        due(1, skyOf(" ".repeat(245) + "off 6"));
        due(6, x.status(3));
        on("sky: how many STATEMENTS, as many as there is room for");
        // 50 of them need 249 bytes; a byte that begins none may stand behind.
        String most = "off1;".repeat(49) + "off2";
        due(50, skyOf(most));
        due(2, x.status(3));
        due(-20 - 250, skyOf(most + ";"));
        on("sky: the FAULT at the last place of a full TAPE");
        due(-20 - 249, skyOf("off1;".repeat(49) + "off2!"));
        due(0, x.status(3));
    }

    private static long fill(MoonOverTheHill m, int n) {
        for (int i = 0; i < n; i++) {
            m.feed(32);
        }
        return 0;
    }

    private static void ofTokens() {
        on("STATEMENTS, one or more, with ; between");
        due(1, skyOf("off 5"));
        due(2, skyOf("off 5;off 6"));
        due(3, skyOf("stone 5;stone 6;stone 7"));
        on("blanks (32) may stand anywhere between, or nowhere");
        due(3, skyOf("   off   5   ;   node   6   ;   swing   7   "));
        due(3, skyOf("off8;node9;swing10"));
        due(8, x.status(3));
        due(9, x.status(4));
        due(10, x.status(5));
        due(1, skyOf("notch1 2 3"));
        on("WORDS (a .. z): a and z are of them");
        atFault("offa 5", 0);
        atFault("offz 5", 0);
        atFault("aff 5", 0);
        atFault("ofz 5", 0);
        on("NUMBERS (digits): 0 and 9 are of them");
        due(6, skyOf("off 0;node 9;swing 90;stone 0;cloud 0;notch 0 0 0"));
        due(90, x.status(5));
        due(0, x.stoneOf(0));
        due(STUCK, x.cloud(0));
        due(0, x.notchOf(0, 1));
        atFault("off 5 0", 6);
        atFault("off 5 9", 6);
        on("WORDS (a .. z): the bytes beside them begin none");
        atFault("`off 5", 0);
        atFault("{off 5", 0);
        atFault("off` 5", 3);
        atFault("off{ 5", 3);
        atFault("Off 5", 0);
        on("NUMBERS (digits): the bytes beside them begin none");
        atFault("off /5", 4);
        atFault("off :5", 4);
        atFault("off 5/", 5);
        atFault("off 5:", 5);
        on("blanks (32) alone: the bytes beside it begin none");
        atFault("off\u001f5", 3);
        atFault("off!5", 3);
        atFault("off\t5", 3);
        atFault("off\n5", 3);
        atFault("\u0000off 5", 0);
        atFault("off 5\u00ff", 5);
        on("TOKENS, each as long as can be");
        atFault("offoff 5", 0);
        atFault("offnode 5", 0);
        atFault("of f 5", 0);
        atFault("off 1 2", 6);
        atFault("notch 123", 9);
    }

    /** A SKY with this FAULT: it is BAD, and nothing of it comes. */
    private static void atFault(String text, int place) {
        more = m -> {
            m.wipe();
            feed(m, text);
            return 0;
        };
        MoonOverTheHill one = prepared();
        MoonOverTheHill twin = prepared();
        int got = one.sky();
        if (got != -20 - place) {
            fault("'" + text + "' answered " + got + ", due is " + (-20 - place));
        }
        if (one.status(12) != twin.status(12) + 1 || refusalsOf(one) != refusalsOf(twin) + 1) {
            fault("'" + text + "' is not refused once as BAD");
        }
        twin.wipe();
        if (!probe(one).equals(probe(twin))) {
            fault("'" + text + "' left something behind");
        }
        more = m -> 0;
    }

    private static void ofFaults() {
        on("THE TAPE's size, if it ends too early");
        atFault("   ", 3);
        atFault("off", 3);
        atFault("off ", 4);
        atFault("off 5;", 6);
        atFault("off 5 ; ", 8);
        atFault("notch", 5);
        atFault("notch 1", 7);
        atFault("notch 1 2", 9);
        atFault("notch 1 2 ", 10);
        atFault("stone", 5);
        atFault("cloud", 5);
        on("the first TOKEN that can't stand there");
        atFault(";", 0);
        atFault(";off 5", 0);
        atFault("off 5;;off 6", 6);
        atFault("off 5 off 6", 6);
        atFault("5", 0);
        atFault("off off", 4);
        atFault("off ;", 4);
        atFault("off 5 6", 6);
        atFault("notch 1 2 3 4", 12);
        atFault("notch 1 2;3", 9);
        atFault("stone 1 2", 8);
        atFault("of 5", 0);
        atFault("offs 5", 0);
        atFault("stones 5", 0);
        atFault("notched 1 2 3", 0);
        on("also a NUMBER that may not be");
        atFault("stone 180", 6);
        atFault("cloud 10000", 6);
        on("or has more than 4 digits");
        atFault("off 10000", 4);
        atFault("off 00000", 4);
        atFault("node 00001", 5);
        atFault("swing 99999", 6);
        atFault("stone 00005", 6);
        atFault("cloud 00005", 6);
        atFault("off 4294967297", 4);
        due(6, skyOf("off 9999;node 0000;swing 0007;stone 0179;cloud 9999;notch 0000 0179 0030"));
        due(9999, x.status(3));
        due(7, x.status(5));
        due(179, x.stoneOf(0));
        due(30, x.notchOf(0, 2));
        on("a byte that begins none");
        atFault("off 5!", 5);
        atFault("off -5", 4);
        atFault("off 5,", 5);
        on("All comes to what there is, or nothing");
        atFault("off 1;node 2;swing 3;notch 4 5 6;stone 7;cloud 8;x", 49);
        due(6, skyOf("off 1;node 2;swing 3;notch 4 5 6;stone 7;cloud 8"));
        due(1, x.status(0));
        due(1, x.status(1));
        due(1, x.status(2));
        due(3, x.status(5));
    }

    private static void ofFaultsOfNotches() {
        on("of notch: T below F");
        atFault("notch 1 0 5", 8);
        atFault("notch 9 8 1", 8);
        atFault("notch 179 178 1", 10);
        due(1, skyOf("notch 9 9 1"));
        on("of notch: a NUMBER that may not be");
        atFault("notch 180 180 1", 6);
        atFault("notch 1 180 1", 8);
        atFault("notch 1 2 31", 10);
        due(2, skyOf("notch 0 179 0;notch 179 179 30"));
        on("of notch: a NUMBER of more than 4 digits");
        atFault("notch 00001 2 3", 6);
        atFault("notch 1 00002 3", 8);
        atFault("notch 1 2 00003", 10);
    }

    private static void ofNoRoomInASky() {
        on("what there is no room for: its word (notch)");
        for (int i = 0; i < 7; i++) {
            x.notch(1, 2, 3);
        }
        due(-20 - 12, skyOf("notch 1 2 3;notch 1 2 3"));
        due(7, x.status(0));
        due(1, skyOf("notch 1 2 3"));
        due(-20, skyOf("notch 1 2 3"));
        due(-20 - 6, skyOf("off 9;notch 9 8 99"));
        due(0, x.status(3));
        on("what there is no room for: its word (stone)");
        due(-20 - 48, skyOf("stone 1;stone 2;stone 3;stone 4;stone 5;stone 6;stone 7"));
        due(0, x.status(1));
        due(6, skyOf("stone 1;stone 2;stone 3;stone 4;stone 5;stone 6"));
        due(-20 - 1, skyOf(" stone 180"));
        due(-20, skyOf("stone"));
        on("what there is no room for: its word (cloud)");
        clouds(x, 7);
        due(-20 - 8, skyOf("cloud 1;cloud 2"));
        due(7, x.status(2));
        due(1, skyOf("cloud 1"));
        due(-20, skyOf("cloud 1"));
        on("a NUMBER that may not be: a CLOUD that is told");
        x.cloud(5);
        due(-20 - 6, skyOf("cloud 5"));
        due(-20 - 14, skyOf("cloud 6;cloud 6"));
        due(1, x.status(2));
        due(1, skyOf("cloud 6"));
        on("with STATEMENTS to come behind them, off, node and swing need no room");
        notches(x, 8);
        stones(x, 6);
        clouds(x, 8);
        due(3, skyOf("off 1;node 2;swing 3"));
    }

    // ==== 2. EVENINGS

    private static void ofKinds() {
        on("FULL: AGE is 1427 to 1526; WALK: as FULL");
        int[] offs = {1426, 1427, 1526, 1527};
        int[] full = {0, 1, 1, 0};
        for (int i = 0; i < offs.length; i++) {
            x.ask(0, offs[i]);
            all(full[i], x.is(0, 1), x.is(0, 5));
        }
        on("NEW: AGE is 0 to 99");
        int[] youngs = {2952, 0, 99, 100};
        int[] isNew = {0, 1, 1, 0};
        for (int i = 0; i < youngs.length; i++) {
            x.ask(0, youngs[i]);
            due(isNew[i], x.is(0, 4));
        }
        on("FAR: OUT is 28");
        int[] swings = {3395, 3396, 3397};
        int[] far = {0, 1, 0};
        for (int i = 0; i < swings.length; i++) {
            x.ask(2, swings[i]);
            due(far[i], x.is(0, 3));
        }
        on("FLAT: LATER is 30 at most");
        x.notch(90, 92, 5);
        x.ask(0, 1479);
        due(30, x.moon(0, 7));
        due(1, x.is(0, 2));
        x.ask(0, 1476);
        due(31, x.moon(0, 7));
        due(0, x.is(0, 2));
        on("FLAT: LATER 0");
        // DAY 1 waits 40 minutes for 96 degrees, DAY 2 comes up 40 minutes later, ahead of the NOTCH.
        x.notch(86, 95, 8);
        x.told(1, 1476);
        due(0, x.moon(1, 7));
        due(1, x.is(1, 2));
        on("FLAT: it is FULL");
        x.notch(86, 90, 8);
        x.told(1, 1426);
        due(1, x.moon(1, 7) <= 30 ? 1 : 0);
        due(0, x.is(1, 2));
        x.told(1, 1427);
        due(1, x.is(1, 2));
        x.told(1, 1526);
        due(1, x.is(1, 2));
        x.told(1, 1527);
        due(0, x.is(1, 2));
        on("is: DAY 9999 is never FLAT");
        x.told(9999, 1476);
        due(1, x.is(9999, 1));
        due(0, x.is(9999, 2));
        due(0, x.many(9999, 1, 2));
        due(NONE, x.next(9999, 2));
        on("is: EVENING: always");
        all(1, x.is(0, 0), x.is(9999, 0));
        on("is: a KIND (0 to 5)");
        mayBe(0, 5, (m, kind) -> m.is(0, kind));
    }

    private static void ofLater() {
        on("LATER: 0 to 1439: 0");
        x.notch(86, 95, 8);
        due(442, x.moon(1, 6));
        due(442, x.moon(2, 6));
        due(0, x.moon(1, 7));
        on("LATER: 0 to 1439: modulo 1440, a minute earlier");
        x.notch(86, 97, 9);
        x.notch(80, 80, 1);
        due(447, x.moon(1, 6));
        due(446, x.moon(2, 6));
        due(1439, x.moon(1, 7));
        on("LATER: modulo 1440, over midnight");
        due(1432, x.moon(21, 6));
        due(34, x.moon(22, 6));
        due(42, x.moon(21, 7));
        on("moon: LATER of DAY 9999: BAD");
        taken(m -> m.moon(9998, 7));
        bad(m -> m.moon(9999, 7));
        on("says: FLAT LATER (of DAY 9999: 0)");
        x.evening(0, 2, 9999);
        due(0, x.says(0, 2));
        x.evening(0, 2, 9998);
        due(36, x.says(0, 2));
        due(0, x.status(12));
    }

    private static void ofMinutes() {
        on("minutes f to t: 0 to 1439");
        mayBe(0, 1439, (m, v) -> m.shines(0, v, 1439));
        mayBe(0, 1439, (m, v) -> m.shines(0, 0, v));
        mayBe(0, 1439, (m, v) -> m.light(0, v, 1439));
        mayBe(0, 1439, (m, v) -> m.light(0, 0, v));
        mayBe(0, 1439, (m, v) -> m.lights(0, 1, v, 1439));
        mayBe(0, 1439, (m, v) -> m.lights(0, 1, 0, v));
        mayBe(0, 1439, (m, v) -> m.walks(0, 1, v, 1439, 0, NONE));
        mayBe(0, 1439, (m, v) -> m.walks(0, 1, 0, v, 0, NONE));
        on("minutes f to t: f no more than t");
        taken(m -> m.shines(0, 7, 7), m -> m.light(0, 7, 7), m -> m.lights(0, 1, 7, 7), m -> m.walks(0, 1, 7, 7, 0, NONE));
        bad(m -> m.shines(0, 8, 7), m -> m.light(0, 8, 7), m -> m.lights(0, 1, 8, 7), m -> m.walks(0, 1, 8, 7, 0, NONE),
            m -> m.shines(0, 1439, 0));
        on("SHINES: how many of these minutes: f, f and 1, .. t");
        due(1, x.shines(0, 400, 400));
        due(2, x.shines(0, 400, 401));
        due(600, x.shines(0, 360, 959));
        due(599, x.shines(0, 361, 959));
        due(599, x.shines(0, 360, 958));
        on("LIGHT: that times LIT by 100, cut");
        // DAY 1: LIT 6, UP 402.
        due(0, x.light(1, 402, 417));
        due(1, x.light(1, 402, 418));
        due(36, x.light(1, 0, 1439));
        on("LIGHT: LIT 0 and LIT 100");
        due(0, x.light(0, 0, 1439));
        x.told(0, 1476);
        due(600, x.light(0, 0, 1439));
        on("lights: LIGHT of n DAYS, all together: each is cut");
        // DAYS 1 and 2 have LIT 6 and 13: 16 minutes of each are 0 and 2, 32 together would be more.
        due(x.light(1, 450, 465) + x.light(2, 450, 465), x.lights(1, 2, 450, 465));
        due(2, x.lights(1, 2, 450, 465));
        on("lights: n DAYS (1 to 40)");
        mayBe(1, 40, (m, n) -> m.lights(0, n, 0, 1439));
        on("lights: the last DAY of n counts, none beyond 9999");
        due(36, x.lights(0, 2, 0, 1439));
        due(0, x.lights(0, 1, 0, 1439));
        due(x.light(9998, 0, 1439) + x.light(9999, 0, 1439), x.lights(9998, 40, 0, 1439));
    }

    // ==== 3. WHAT COMES OF IT

    private static void ofNumberOfDays() {
        on("n of them, 1 to 1000");
        mayBe(1, 1000, (m, n) -> m.many(0, n, 0));
        mayBe(1, 1000, (m, n) -> m.between(0, n, 0, 999, NONE));
        mayBe(1, 1000, (m, n) -> m.farthest(0, n));
        mayBe(1, 1000, (m, n) -> m.soonest(0, n));
        mayBe(1, 1000, (m, n) -> m.brightest(0, n));
        mayBe(1, 1000, (m, n) -> m.walks(0, n, 0, 1439, 0, NONE));
        mayBe(1, 1000, (m, n) -> m.overs(0, n, 0, NONE));
        mayBe(1, 1000, (m, n) -> m.lates(0, n, 0));
        mayBe(1, 1000, (m, n) -> m.hits(0, n, 0));
        mayBe(1, 1000, (m, n) -> m.chance(0, n, 0));
        mayBe(1, 1000, FAR_BELOW + BAD, (m, n) -> m.meant(0, n, 0));
        on("DAYS from d on, n of them: the n-th counts, the next one doesn't");
        due(15, x.next(0, 1));
        due(0, x.many(0, 15, 1));
        due(1, x.many(0, 16, 1));
        due(1, x.many(15, 1, 1));
        due(1000, x.many(0, 1000, 0));
        due(999, x.between(0, 1000, 0, 999, 999));
        due(STUCK, x.between(0, 1000, 0, 999, 1000));
        due(999, x.walks(0, 1000, 0, 0, 0, 999));
        due(STUCK, x.walks(0, 1000, 0, 0, 0, 1000));
        on("none beyond 9999 counts");
        due(1, x.many(9999, 1000, 0));
        due(10, x.many(9990, 1000, 0));
        due(10, x.between(9990, 1000, 0, 999, NONE));
        due(9999, x.between(9990, 1000, 0, 999, 9));
        due(STUCK, x.between(9990, 1000, 0, 999, 10));
        due(10, x.walks(9990, 1000, 0, 0, 0, NONE));
        due(STUCK, x.walks(9990, 1000, 0, 0, 0, 10));
        all(9999, x.farthest(9999, 1000), x.soonest(9999, 1000), x.brightest(9999, 1000));
        due(x.hits(9999, 1, 20), x.hits(9999, 1000, 20));
        due(1, x.chance(9999, 1000, 0));
        x.notch(0, 179, 1);
        due(10, x.overs(9990, 1000, 0, NONE));
        due(9999, x.overs(9990, 1000, 0, 9));
        due(STUCK, x.overs(9990, 1000, 0, 10));
    }

    private static void ofNext() {
        on("NEXT: from d on");
        due(15, x.next(15, 1));
        due(44, x.next(16, 1));
        on("NEXT: 1000 at most");
        due(3396, x.next(3396 - 999, 3));
        due(NONE, x.next(3396 - 1000, 3));
        on("next: NONE: none of 1000; none beyond 9999");
        due(1, x.is(9996, 1));
        due(9996, x.next(9996, 1));
        due(NONE, x.next(9997, 1));
        due(9999, x.next(9999, 0));
        on("next: NONE isn't refused");
        taken(m -> m.next(9999, 2), m -> m.next(9998, 3));
        on("next, many: a KIND (0 to 5)");
        mayBe(0, 5, (m, kind) -> m.next(0, kind));
        mayBe(0, 5, (m, kind) -> m.many(0, 1, kind));
        on("many: none, and all");
        due(0, x.many(1, 14, 1));
        due(14, x.many(1, 14, 0));
    }

    private static void ofBetween() {
        on("BETWEEN: at a degree a to b");
        // DAYS 1 and 2 come up at 86 and 80.
        due(2, x.between(1, 2, 80, 86, NONE));
        due(1, x.between(1, 2, 81, 86, NONE));
        due(1, x.between(1, 2, 80, 85, NONE));
        due(0, x.between(1, 2, 81, 85, NONE));
        due(1, x.between(1, 2, 86, 86, NONE));
        on("BETWEEN: WAY and OVER by 4");
        x.notch(90, 90, 30);
        due(4, x.moon(0, 5));
        due(0, x.between(0, 1, 91, 91, 0));
        due(STUCK, x.between(0, 1, 90, 90, 0));
        on("between: degrees a and b (0 to 999)");
        mayBe(0, 999, (m, a) -> m.between(0, 1, a, 999, NONE));
        mayBe(0, 999, (m, b) -> m.between(0, 1, 0, b, NONE));
        on("between: a no more than b");
        taken(m -> m.between(0, 1, 9, 9, NONE));
        bad(m -> m.between(0, 1, 9, 8, NONE), m -> m.between(0, 1, 999, 0, NONE));
        on("between: how many (i NONE), the i-th");
        due(2, x.between(1, 2, 0, 999, NONE));
        due(1, x.between(1, 2, 0, 999, 0));
        due(2, x.between(1, 2, 0, 999, 1));
        due(0, x.between(0, 1, 0, 0, NONE));
        on("between: STUCK: no such one");
        refused(STUCK, STUCK, m -> m.between(1, 2, 0, 999, 2), m -> m.between(1, 2, 0, 999, MOST),
            m -> m.between(1, 2, 0, 0, 0));
        on("between: an i below NONE may not be");
        bad(m -> m.between(1, 2, 0, 999, -2), m -> m.between(1, 2, 0, 999, LEAST));
        on("between: BAD; STUCK");
        bad(m -> m.between(-1, 2, 0, 0, 9), m -> m.between(0, 0, 0, 0, 9), m -> m.between(0, 1, 1, 0, 9));
    }

    private static void ofBestDays() {
        // LATER of DAYS 16 to 25: 54 58 58 55 49 42 40 40 43 39.
        on("ALIKE: the least LATER of 8 from d on: the eighth counts, the ninth doesn't");
        due(39, x.moon(25, 7));
        due(25, x.alike(18));
        due(22, x.alike(17));
        on("ALIKE: of several the first");
        due(40, x.moon(22, 7));
        due(40, x.moon(23, 7));
        due(22, x.alike(16));
        due(25, x.alike(23));
        on("ALIKE: LATER 0 is the least that there may be");
        x.notch(86, 95, 8);
        due(0, x.moon(1, 7));
        all(1, x.alike(0), x.alike(1));
        on("alike: the last that may be: LATER of DAYS 9991 to 9998");
        int least = 9991;
        for (int d = 9992; d <= 9998; d++) {
            least = x.moon(d, 7) < x.moon(least, 7) ? d : least;
        }
        due(least, x.alike(9991));
        on("FARTHEST: the greatest size of SLANT, below 0 too");
        due(17, x.slant(7));
        due(-16, x.slant(20));
        due(7, x.farthest(0, 29));
        due(20, x.farthest(14, 8));
        on("FARTHEST: of several the first");
        due(-16, x.slant(21));
        due(20, x.farthest(20, 2));
        due(14, x.slant(8));
        due(-14, x.slant(19));
        due(8, x.farthest(8, 12));
        on("soonest: the least OVER, of several the first");
        due(0, x.soonest(0, 1000));
        x.notch(0, 179, 3);
        due(5, x.soonest(5, 1000));
        on("HIGHEST: in minutes 1200 to 1439: from 1200 on");
        // DAY 3 is up till 1202, three minutes of 1200 on with LIT 36; or till 1201, which is too little.
        x.ask(0, 242);
        due(603, x.moon(3, 6));
        due(3, x.brightest(2, 2));
        x.ask(0, 240);
        due(602, x.moon(3, 6));
        due(2, x.brightest(2, 2));
        on("HIGHEST: in minutes 1200 to 1439: till 1439");
        // DAY 2 comes up at 1437, LIT 48; DAY 1 is held back till midnight.
        x.notch(86, 97, 9);
        x.ask(0, 2040);
        due(2, x.moon(1, 6));
        due(1437, x.moon(2, 6));
        due(2, x.brightest(1, 2));
        on("brightest: of several the first");
        all(0, x.light(0, 1200, 1439), x.light(1, 1200, 1439));
        due(0, x.brightest(0, 2));
        due(15, x.brightest(0, 30));
        on("FARTHEST, soonest, HIGHEST: the n-th DAY counts, the next one doesn't");
        due(0, x.farthest(0, 1));
        due(1, x.farthest(0, 2));
        due(14, x.brightest(0, 15));
        due(15, x.brightest(0, 16));
        x.notch(77, 99, 9);
        due(1, x.soonest(1, 2));
        due(3, x.soonest(0, 4));
    }

    private static void ofPictures() {
        // DAY 1: LIT 6, RISE 402, WAY 86: at minute 500 at 86 and 24, 19 high.
        on("PICTURE: LIT from a to b, at a degree from c to e, at a height from g to h");
        due(1, pictured(6, 6, 110, 110, 19, 19, 500, 1));
        due(1, pictured(5, 7, 109, 111, 18, 20, 500, 1));
        all(0, pictured(7, 100, 0, 999, 0, 999, 500, 1), pictured(0, 5, 0, 999, 0, 999, 500, 1),
            pictured(0, 100, 111, 999, 0, 999, 500, 1), pictured(0, 100, 0, 109, 0, 999, 500, 1),
            pictured(0, 100, 0, 999, 20, 999, 500, 1), pictured(0, 100, 0, 999, 0, 18, 500, 1));
        on("PICTURE: a above b: on no DAY");
        all(0, pictured(7, 6, 0, 999, 0, 999, 500, 1000), pictured(0, 100, 999, 0, 0, 999, 500, 1000),
            pictured(0, 100, 0, 999, 20, 19, 500, 1000));
        on("PICTURE: AT minute m: 600 minutes at most");
        due(1, pictured(0, 100, 86, 86, 0, 0, 402, 1));
        due(1, pictured(0, 100, 236, 236, 120, 120, 1002, 1));
        all(0, pictured(0, 100, 0, 999, 0, 999, 1003, 1), pictured(0, 100, 0, 999, 0, 999, 401, 1));
        on("PICTURE: minutes behind RISE, modulo 1440");
        x.told(1, 2213);
        due(1433, x.moon(1, 3));
        due(0, pictured(0, 100, 86, 86, 1, 1, 1439, 1));
        due(1, pictured(0, 100, 87, 87, 1, 1, 1439, 1));
        due(1, pictured(0, 100, 87, 87, 1, 1, 0, 1));
        due(1, pictured(0, 100, 236, 236, 120, 120, 593, 1));
        due(0, pictured(0, 100, 0, 999, 0, 999, 594, 1));
        on("PICTURE: the hill doesn't matter");
        x.notch(0, 179, 30);
        due(1, pictured(6, 6, 110, 110, 19, 19, 500, 1));
        on("picture: n DAYS, from a DAY on; none beyond 9999 counts");
        row(x, 0, 2, 0, 100, 0, 999, 0, 999, 500, 4);
        due(4, x.picture(0, 0, 0));
        due(0, x.picture(0, 9999, 0));
        x.told(9999, 100);
        due(1, x.picture(0, 9999, 0));
        due(9999, x.picture(0, 9999, 1));
        on("picture: how many (what 0), the first (1)");
        row(x, 0, 2, 6, 100, 0, 999, 0, 999, 500, 4);
        due(3, x.picture(0, 0, 0));
        due(1, x.picture(0, 0, 1));
        due(3, x.picture(0, 3, 1));
    }

    /** On how many DAYS from DAY 1 on the picture fits. */
    private static int pictured(long... elements) {
        row(x, 0, 3, elements);
        return x.picture(0, 1, 0);
    }

    private static void ofPictureRows() {
        on("picture: how many (what 0), the first (1)");
        mayBe(0, 1, (m, what) -> m.picture(0, 0, what));
        on("picture: BAD SHELF, DAY, what; OTHER; NOTHING");
        bad(m -> m.picture(-1, 0, 0), m -> m.picture(8, 0, 0), m -> m.picture(2, 10000, 0), m -> m.picture(2, 0, 2),
            m -> m.picture(3, -1, 0), m -> m.picture(3, 0, -1));
        refused(OTHER, OTHER, m -> m.picture(2, 0, 0), m -> m.picture(2, 9999, 1));
        refused(NOTHING, NOTHING, m -> m.picture(3, 0, 0), m -> m.picture(7, 9999, 1));
        on("picture: BAD: fewer elements than eight");
        bad(m -> m.picture(1, 0, 0));
        more = m -> {
            row(m, 5, 2, 0, 100, 0, 999, 0, 200, 500);
            row(m, 6, 2, 0, 100, 0, 999, 0, 200, 500, 1, 0);
            return m.row(7, 2, 0);
        };
        bad(m -> m.picture(5, 0, 0), m -> m.picture(7, 0, 0));
        taken(m -> m.picture(6, 0, 0));
        on("picture: BAD: n not 1 to 1000");
        for (int n : new int[] {0, 1001, -1, LEAST, MOST}) {
            more = m -> m.set(0, 7, n);
            bad(m -> m.picture(0, 0, 0), m -> m.picture(0, 0, 1));
        }
        taken(m -> m.set(0, 7, 1) + m.picture(0, 0, 0), m -> m.set(0, 7, 1000) + m.picture(0, 0, 0));
        on("picture: BAD: m not 0 to 1439");
        for (int minute : new int[] {-1, 1440, LEAST, MOST}) {
            more = m -> m.set(0, 6, minute);
            bad(m -> m.picture(0, 0, 0), m -> m.picture(0, 0, 1));
        }
        taken(m -> m.set(0, 6, 0) + m.picture(0, 0, 0), m -> m.set(0, 6, 1439) + m.picture(0, 0, 0));
        on("picture: BAD: longs that would be as they should, cut to an int");
        more = m -> {
            row(m, 5, 3, 0, 100, 0, 999, 0, 200, 500, (1L << 32) + 60);
            row(m, 6, 3, 0, 100, 0, 999, 0, 200, (1L << 32) + 500, 60);
            return 0;
        };
        bad(m -> m.picture(5, 0, 0), m -> m.picture(6, 0, 1));
        on("picture: longs beyond an int are ends like others");
        due(1, pictured(Long.MIN_VALUE, Long.MAX_VALUE, -1, 1L << 32, Long.MIN_VALUE, 1L << 40, 500, 1));
        due(0, pictured(1L << 32, Long.MAX_VALUE, 0, 999, 0, 999, 500, 1));
        due(0, pictured(Long.MIN_VALUE, -1, 0, 999, 0, 999, 500, 1));
        on("picture: STUCK: 1, if there is none");
        more = m -> m.set(0, 1, -1);
        refused(STUCK, STUCK, m -> m.picture(0, 0, 1));
        taken(m -> m.picture(0, 0, 0));
        due(0, pictured(101, 200, 0, 999, 0, 999, 500, 1000));
        due(0, x.status(15));
    }

    private static void ofSeen() {
        on("SEEN: with EYES (0 to 50)");
        mayBe(0, 50, (m, eyes) -> m.seen(0, eyes));
        on("SEEN: AGE 150 less EYES at least");
        int[] ages = {150, 149, 149, 101, 101, 100, 99};
        int[] eyes = {0, 0, 1, 48, 49, 50, 50};
        int[] first = {0, 1, 0, 1, 0, 0, 1};
        for (int i = 0; i < ages.length; i++) {
            x.told(0, ages[i]);
            due(first[i], x.seen(0, eyes[i]));
        }
        on("SEEN: AGE 1476 at most");
        x.told(5, 1476);
        due(5, x.seen(5, 0));
        x.told(5, 1477);
        due(21, x.seen(5, 50));
        on("SEEN: no CLOUD told for it");
        x.told(0, 150);
        clouds(x, 2);
        x.cloud(0);
        x.cloud(1);
        x.cloud(3);
        due(2, x.seen(0, 0));
        due(4, x.seen(3, 0));
        x.clear(2);
        due(0, x.seen(0, 0));
        on("SEEN: all CLOUDS that may be told");
        x.told(0, 150);
        for (int d = 0; d < 8; d++) {
            x.cloud(d);
        }
        due(8, x.seen(0, 0));
        on("seen: NONE: none beyond 9999; it isn't refused");
        x.told(9999, 1477);
        due(NONE, x.seen(9999, 50));
        x.told(9999, 1476);
        due(9999, x.seen(9999, 50));
        x.cloud(9999);
        due(NONE, x.seen(9999, 50));
        x.clear(2);
        x.told(9999, 149);
        due(NONE, x.seen(9999, 0));
        due(0, refusalsOf(x));
    }

    private static void ofCourt() {
        on("COURT: AGE from 100 on, 400 at most");
        int[] ages = {99, 100, 400, 401};
        int[] begins = {NONE, 3, 3, NONE};
        row(x, 0, 2, 3);
        for (int i = 0; i < ages.length; i++) {
            x.told(3, ages[i]);
            due(begins[i], x.court(0, 1));
            due(begins[i] == NONE ? 1 : 0, x.eager(0, 1));
        }
        on("COURT: told by most of them, of those on which it could have been seen");
        row(x, 0, 2, 5, 5, 5, 2, 3, 3, 1);
        due(3, x.court(0, 7));
        due(3, x.eager(0, 7));
        on("COURT: of several the first");
        row(x, 0, 2, 4, 2, 2, 4, 3);
        due(4, x.court(0, 5));
        due(2, x.court(0, 3));
        due(4, x.court(0, 2));
        on("court, eager: by the first n elements");
        row(x, 0, 2, 1, 2, 2, 0);
        due(1, x.court(0, 1));
        due(1, x.court(0, 2));
        due(2, x.court(0, 3));
        due(0, x.eager(0, 3));
        due(1, x.eager(0, 4));
        on("COURT: NONE");
        row(x, 0, 2, 0, 0, 5, 30);
        due(NONE, x.court(0, 4));
        due(4, x.eager(0, 4));
        due(0, refusalsOf(x));
        on("COURT: DAYS are 0 to 9999: the others are told by nobody's eyes");
        row(x, 0, 3, -1, -1, 10000, 10000, (1L << 32) + 1, (1L << 32) + 1, Long.MIN_VALUE, Long.MAX_VALUE, 1);
        due(1, x.court(0, 9));
        due(NONE, x.court(0, 8));
        due(8, x.eager(0, 8));
        due(8, x.eager(0, 9));
        // DAY 10000 would have AGE 300, and that ahead of DAY 0 AGE 200, but there is neither.
        x.told(9999, 200);
        due(NONE, x.court(0, 4));
        x.told(0, 300);
        due(NONE, x.court(0, 4));
        due(4, x.eager(0, 4));
        on("COURT: DAY 0 and DAY 9999");
        row(x, 0, 2, 0, 9999);
        x.told(0, 100);
        due(0, x.court(0, 1));
        x.told(9999, 400);
        due(9999, x.court(0, 2));
        on("COURT: a CLOUD doesn't matter to it");
        row(x, 0, 2, 2);
        x.cloud(2);
        due(2, x.court(0, 1));
    }

    private static void ofTides() {
        on("TIDE: minute m of a DAY (0 to 1439)");
        mayBe(0, 1439, (m, minute) -> m.tide(0, minute));
        on("TIDE (0 to 100): at HIGH water, and far from it by k minutes (0 to 360)");
        // DAY 0: LIT 0, HIGH water at 540 and 1260.
        int[] minutes = {540, 1260, 180, 900, 360, 720, 541, 539, 181, 179, 901, 899};
        int[] tides = {100, 100, 0, 0, 50, 50, 99, 99, 1, 1, 1, 1};
        for (int i = 0; i < minutes.length; i++) {
            due(tides[i], x.tide(0, minutes[i]));
        }
        on("TIDE: every 720 minutes, ahead of the first HIGH water and behind the last");
        due(50, x.tide(0, 0));
        due(50, x.tide(0, 1439));
        all(51, x.tide(0, 364), x.tide(0, 1084), x.tide(0, 716), x.tide(0, 1436));
        on("TIDE: cut towards 0, below 50 too");
        due(50, x.tide(0, 359));
        due(50, x.tide(0, 357));
        due(49, x.tide(0, 356));
        on("TIDE: LIT less 50, its size");
        x.told(0, 738);
        due(50, x.moon(0, 1));
        all(50, x.tide(0, x.high(0)), x.tide(0, x.high(0) + 360));
        x.told(0, 1476);
        due(100, x.tide(0, x.high(0)));
        due(0, x.tide(0, x.high(0) + 360));
        on("high: the first HIGH water of a DAY (0 to 719)");
        int[] ages = {369, 370, 1845, 1846, 1847, 2213, 2215};
        int[] rises = {539, 540, 1259, 1260, 1260, 1439, 0};
        int[] highs = {719, 0, 719, 0, 0, 179, 180};
        for (int i = 0; i < ages.length; i++) {
            x.told(0, ages[i]);
            due(rises[i], x.moon(0, 3));
            due(highs[i], x.high(0));
        }
    }

    private static void ofBones() {
        on("BONE: how many are 29 or 30");
        row(x, 0, 0, 29);
        all(1, x.bone(0, 1, 0), x.bone(0, 1, 1));
        row(x, 0, 0, 28, 29, 30, 31);
        due(0, x.bone(0, 1, 0));
        due(1, x.bone(0, 2, 0));
        due(2, x.bone(0, 3, 0));
        due(2, x.bone(0, 4, 0));
        on("BONE: the longest run of such: none, at the beginning, within, at the end, all");
        row(x, 0, 0, 28, 28, 28);
        due(0, x.bone(0, 3, 1));
        row(x, 0, 0, 29, 30, 28, 29);
        due(2, x.bone(0, 4, 1));
        row(x, 0, 0, 29, 31, 30, 29, 30, 0, 30, 30);
        due(3, x.bone(0, 8, 1));
        row(x, 0, 0, 29, 31, 30, 29, 30);
        due(3, x.bone(0, 5, 1));
        due(2, x.bone(0, 4, 1));
        row(x, 0, 0, 29, 30, 29, 30);
        due(4, x.bone(0, 4, 1));
        on("MONTHS: sums of 3 that are 88 or 89");
        row(x, 0, 0, 29, 29, 29);
        due(0, x.bone(0, 3, 2));
        row(x, 0, 0, 29, 29, 30);
        due(1, x.bone(0, 3, 2));
        row(x, 0, 0, 29, 30, 30);
        due(1, x.bone(0, 3, 2));
        row(x, 0, 0, 30, 30, 30);
        due(0, x.bone(0, 3, 2));
        on("MONTHS: of any counts, 0 and below 0 too");
        row(x, 0, 0, 88, 0, 0, 89, -1, 0, 90);
        due(5, x.bone(0, 7, 2));
        row(x, 0, 0, 0, 0, 88);
        due(1, x.bone(0, 3, 2));
        on("MONTHS: one after the other: n of fewer than 3, and the last 3 of n");
        row(x, 0, 0, 29, 30, 29, 30, 29);
        due(0, x.bone(0, 1, 2));
        due(0, x.bone(0, 2, 2));
        due(1, x.bone(0, 3, 2));
        due(2, x.bone(0, 4, 2));
        due(3, x.bone(0, 5, 2));
        on("MONTHS: sums that would be 88 only by wrapping around");
        row(x, 0, 3, Long.MAX_VALUE, Long.MAX_VALUE, 90);
        due(0, x.bone(0, 3, 2));
        row(x, 0, 3, Long.MIN_VALUE, Long.MIN_VALUE, 88);
        due(0, x.bone(0, 3, 2));
        on("BONE: elements that are 29 only as ints");
        row(x, 0, 3, (1L << 32) + 29, (1L << 32) + 30);
        all(0, x.bone(0, 2, 0), x.bone(0, 2, 1));
        on("bone: how many (what 0), the longest run (1), MONTHS (2)");
        mayBe(0, 2, (m, what) -> m.bone(1, 3, what));
    }

    private static void ofStonesThatHit() {
        on("hits, chance, meets, place, meant: by w (0 to 20)");
        mayBe(0, 20, (m, w) -> m.hits(0, 1, w));
        mayBe(0, 20, (m, w) -> m.chance(0, 1, w));
        mayBe(0, 20, (m, w) -> m.meets(0, 0, w));
        mayBe(0, 20, (m, w) -> m.place(0, 1, w));
        mayBe(0, 20, FAR_BELOW + BAD, (m, w) -> m.meant(0, 1, w));
        on("STONES that hit: within w degrees: bits");
        // DAY 0 comes up at 90.
        due(0, x.hits(0, 1000, 20));
        x.stone(69);
        x.stone(70);
        x.stone(110);
        x.stone(111);
        x.stone(90);
        x.stone(91);
        due(16, x.hits(0, 1, 0));
        due(16 + 32, x.hits(0, 1, 1));
        due(2 + 4 + 16 + 32, x.hits(0, 1, 20));
        due(16 + 32, x.hits(0, 1, 19));
        on("STONES that hit: at which it is at UP");
        x.stone(90);
        x.stone(91);
        x.notch(90, 90, 30);
        due(2, x.hits(0, 1, 0));
        on("STONES that hit: on some of n DAYS");
        x.stone(86);
        x.stone(80);
        due(0, x.hits(0, 1, 0));
        due(1, x.hits(0, 2, 0));
        due(3, x.hits(0, 3, 0));
        on("CHANCE: of all degrees 0 to 179");
        due(1, x.chance(0, 1, 0));
        due(3, x.chance(0, 1, 1));
        due(41, x.chance(0, 1, 20));
        on("CHANCE: at 180 it is beyond all degrees");
        upAt180();
        due(0, x.chance(0, 1, 0));
        due(1, x.chance(0, 1, 1));
        due(20, x.chance(0, 1, 20));
        on("CHANCE: at 179");
        upAt180();
        x.clear(0);
        x.notch(0, 178, 30);
        due(179, x.moon(0, 8));
        due(1, x.chance(0, 1, 0));
        due(2, x.chance(0, 1, 1));
        on("place: the degree (0 to 179), of several the least");
        due(90, x.place(0, 1, 0));
        due(70, x.place(0, 1, 20));
        due(80, x.place(0, 3, 0));
        due(85, x.place(0, 3, 5));
        on("place: on most of n DAYS (1 to 40)");
        mayBe(1, 40, (m, n) -> m.place(0, n, 0));
        // 90, 86, 80: from 82 on the last two are within 4, from 86 on the first two.
        due(90, x.place(0, 1, 0));
        due(82, x.place(0, 3, 4));
        on("place: at 180 it is beyond all degrees");
        upAt180();
        due(0, x.place(0, 1, 0));
        due(179, x.place(0, 1, 1));
        due(160, x.place(0, 1, 20));
        on("meets: within w (0 to 20) degrees");
        x.stone(110);
        x.stone(70);
        x.stone(90);
        due(0, x.meets(0, 0, 20));
        due(15, x.meets(0, 0, 19));
        due(0, x.meets(1, 0, 20));
        due(1, x.meets(1, 0, 19));
        due(0, x.meets(2, 0, 0));
        on("meets: the first DAY from d on (1000 at most)");
        x.stone(40);
        due(2739, x.meets(0, 2739, 0));
        due(2739, x.meets(0, 2739 - 999, 0));
        due(NONE, x.meets(0, 2739 - 1000, 0));
        on("meets: NONE isn't refused");
        taken(m -> m.clear(1) + m.stone(179) + m.meets(0, 0, 20));
        on("meets: a STONE");
        bad(m -> m.meets(-1, 0, 0), m -> m.meets(3, 0, 0), m -> m.meets(MOST, 0, 0), m -> m.meets(LEAST, 0, 0));
        taken(m -> m.meets(0, 0, 0), m -> m.meets(2, 0, 0));
        due(BAD, x.meets(0, 0, 0));
    }

    /** DAY 0 comes up at 146, behind the greatest HEIGHT all round: it clears the SKY LINE at its end. */
    private static void upAt180() {
        x.ask(1, 2049);
        x.ask(2, 3396);
        x.notch(0, 179, 30);
        due(180, x.moon(0, 8));
    }

    private static void ofMeant() {
        on("meant: -1000005: no STONES");
        more = m -> m.clear(1);
        refused(STUCK, FAR_BELOW + STUCK, m -> m.meant(0, 1, 0), m -> m.meant(9999, 1000, 20));
        on("meant: -1000002 ahead of -1000005");
        more = m -> m.clear(1);
        refused(BAD, FAR_BELOW + BAD, m -> m.meant(-1, 1, 0), m -> m.meant(0, 0, 0), m -> m.meant(0, 1, 21));
        on("MEANT: all STONES hit, and none");
        x.stone(90);
        due(1000 - 5, x.meant(0, 1, 0));
        x.clear(1);
        x.stone(0);
        due(-5, x.meant(0, 1, 0));
        due(-16, x.meant(0, 1, 1));
        on("MEANT: each by itself is cut");
        x.stone(90);
        x.stone(0);
        x.stone(1);
        due(333 - 227, x.meant(0, 1, 20));
        on("MEANT: as many as CHANCE has it");
        // Within 20 of 90, 86, 80 .. 56 are all of 36 to 110: 75 degrees, 416 of 1000.
        due(75, x.chance(0, 8, 20));
        x.stone(90);
        x.stone(0);
        due(500 - 416, x.meant(0, 8, 20));
        x.clear(1);
        x.stone(0);
        due(-416, x.meant(0, 8, 20));
        on("slant: -1000002");
        refused(BAD, FAR_BELOW + BAD, m -> m.slant(-1), m -> m.slant(10000));
    }

    // ==== IN TRUTH

    private static void ofDraws() {
        on("clear, if a DRAW below 10 is not below CLOUD");
        // SEED 1 becomes 1103527590: its upper 16 bits are 16838, 8 modulo 10.
        x.ask(3, 8);
        due(1, x.goes());
        x.seed(1);
        x.ask(3, 9);
        due(0, x.goes());
        on("a DRAW of 0 and of 9: CLOUD 0 and CLOUD 9");
        int nought = seedThatDraws(0);
        int nine = seedThatDraws(9);
        x.ask(3, 0);
        x.seed(nought);
        due(1, x.goes());
        x.ask(3, 1);
        x.seed(nought);
        due(0, x.goes());
        x.ask(3, 9);
        x.seed(nine);
        due(1, x.goes());
        on("SEED becomes SEED times 1103515245, and 12345 (an int, wrapping)");
        due(1, x.seed(MOST));
        x.goes();
        due((int) (2147483647L * 1103515245L + 12345L), x.status(10));
        on("its upper 16 bits, no sign");
        // SEED becomes -2147471303: without its sign its upper bits are 32768.
        x.seed(LEAST);
        x.ask(3, 8);
        due(1, x.goes());
        due(-2147471303, x.status(10));
        x.seed(LEAST);
        x.ask(3, 9);
        due(0, x.goes());
        on("SEED (1 at first)");
        due(1, x.status(10));
        on("TODAY (DAY 0 at first) is 1 more, clear or not");
        due(0, x.status(7));
        x.goes();
        due(1, x.status(7));
        x.ask(3, 9);
        x.seed(1);
        due(0, x.goes());
        due(2, x.status(7));
        on("goes: a CLOUD told for TODAY doesn't matter to it");
        x.cloud(0);
        x.ask(3, 0);
        due(1, x.goes());
    }

    private static int seedThatDraws(int wanted) {
        for (int seed = 0; seed < 1000; seed++) {
            int next = seed * 1103515245 + 12345;
            if ((next >>> 16) % 10 == wanted) {
                return seed;
            }
        }
        return 0;
    }

    private static void ofLooks() {
        on("LOOKS: the moon SHINES in minutes 1080 to 1439: up till 1079, till 1080");
        due(0, looksAt(247, 480));
        due(1, looksAt(249, 481));
        on("LOOKS: the moon SHINES in minutes 1080 to 1439: from 1439 on, from 0 on");
        due(1, looksAt(2213, 1439));
        due(0, looksAt(2215, 0));
        on("LOOKS: clear ones alone");
        x.ask(0, 1476);
        x.ask(3, 9);
        due(0, x.goes());
        due(0, x.status(8));
        on("looks: n (1 to 40) of them: LOOKS then");
        mayBe(1, 40, (m, n) -> m.looks(n));
        on("looks: n of them, no more");
        x.looks(1);
        due(1, x.status(7));
        x.looks(40);
        due(41, x.status(7));
        on("looks: till DAY 9999");
        toTheEnd(x, 9998);
        x.ask(3, 0);
        int looks = x.status(8);
        int seed = x.status(10);
        due(looks + (x.shines(9998, 1080, 1439) > 0 ? 1 : 0), x.looks(40));
        due(9999, x.status(7));
        due(seed * 1103515245 + 12345, x.status(10));
        on("looks: on DAY 9999 none goes by, and none is refused");
        toTheEnd(x, 9999);
        int last = x.status(10);
        due(x.status(8), x.looks(40));
        due(9999, x.status(7));
        due(last, x.status(10));
        due(0, refusalsOf(x));
        on("goes: on DAY 9998");
        toTheEnd(x, 9998);
        x.ask(3, 0);
        due(1, x.goes());
        due(9999, x.status(7));
        on("goes: STUCK: TODAY is 9999");
        more = m -> toTheEnd(m, 9999);
        refused(STUCK, STUCK, m -> m.goes());
    }

    private static int looksAt(int age, int up) {
        MoonOverTheHill m = new MoonOverTheHill();
        m.ask(3, 0);
        m.told(0, age);
        due(up, m.moon(0, 6));
        due(1, m.goes());
        return m.status(8);
    }

    private static long toTheEnd(MoonOverTheHill m, int today) {
        int left = today - m.status(7);
        for (int i = 0; i < left / 40; i++) {
            m.looks(40);
        }
        if (left % 40 > 0) {
            m.looks(left % 40);
        }
        return 0;
    }

    // ==== SHELVES

    private static void ofShelves() {
        on("SHELVES 0 to 7");
        more = m -> {
            row(m, 0, 2, 0, 100, 0, 999, 0, 200, 500, 60);
            row(m, 7, 2, 0, 100, 0, 999, 0, 200, 500, 60);
            return 0;
        };
        mayBe(0, 7, (m, s) -> m.row(s, 0, 1));
        mayBe(0, 7, (m, s) -> m.set(s, 0, 1));
        mayBe(0, 7, (m, s) -> m.copy(s, 0, 0, 0, 1));
        mayBe(0, 7, (m, s) -> m.copy(0, s, 0, 0, 1));
        mayBe(0, 7, (m, s) -> m.evening(s, 0, 0));
        mayBe(0, 7, (m, s) -> m.picture(s, 0, 0));
        mayBe(0, 7, (m, s) -> m.court(s, 1));
        mayBe(0, 7, (m, s) -> m.eager(s, 1));
        mayBe(0, 7, (m, s) -> m.bone(s, 1, 0));
        more = m -> m.evening(0, 1, 0) + m.evening(7, 1, 0);
        mayBe(0, 7, (m, s) -> m.says(s, 1));
        mayBe(0, 7, (m, s) -> m.isSo(s));
        on("SHELVES hold NOTHING (at first)");
        for (int s = 0; s < 8; s++) {
            due(NONE, x.holds(s));
        }
        due(0, x.status(11));
        on("row: a SORT (0 bytes, .. 4 booleans)");
        mayBe(0, 4, (m, sort) -> m.row(0, sort, 1));
        on("row: 0 to 40 elements");
        mayBe(0, 40, (m, n) -> m.row(0, 2, n));
        on("row: none, and as many as there may be");
        due(1, x.row(0, 2, 0));
        due(1, x.row(1, 2, 40));
        due(2, x.holds(0));
        due(BAD, x.set(0, 0, 1));
        due(1, x.set(1, 39, 1));
        due(BAD, x.set(1, 40, 1));
        on("row: a new ROW: elements 0 at first, whatever the SHELF held");
        row(x, 0, 3, 5, 6, 7);
        due(1, x.row(0, 3, 40));
        for (int i = 0; i < 40; i++) {
            due(0, x.element(0, i));
        }
        x.evening(0, 5, 9999);
        due(1, x.row(0, 4, 1));
        due(0, x.element(0, 0));
        due(4, x.holds(0));
        on("row: a smaller ROW has no more than it has");
        row(x, 0, 3, 5, 6, 7);
        x.row(0, 3, 2);
        due(BAD, x.set(0, 2, 1));
        x.row(0, 3, 3);
        due(0, x.element(0, 2));
        on("set: BAD i");
        bad(m -> m.set(1, -1, 1), m -> m.set(1, 3, 1), m -> m.set(1, MOST, 1), m -> m.set(1, LEAST, 1));
        taken(m -> m.set(1, 0, 1), m -> m.set(1, 2, 1));
        on("set: BAD SHELF; OTHER; NOTHING; BAD i");
        bad(m -> m.set(8, -1, 1));
        refused(OTHER, OTHER, m -> m.set(2, 0, 1), m -> m.set(2, -1, 1), m -> m.set(2, 40, 1));
        more = m -> m.evening(2, 0, 0);
        refused(OTHER, OTHER, m -> m.set(2, 0, 1), m -> m.court(2, 1), m -> m.copy(2, 0, 0, 0, 1));
        refused(NOTHING, NOTHING, m -> m.set(3, 0, 1), m -> m.set(3, -1, 1), m -> m.set(3, 40, 1));
        on("element: 0: none, no ROW (nothing is refused)");
        row(x, 0, 2, 8, 9);
        x.evening(1, 5, 30);
        due(8, x.element(0, 0));
        due(9, x.element(0, 1));
        all(0, x.element(0, 2), x.element(0, -1), x.element(0, MOST), x.element(0, LEAST), x.element(1, 0),
            x.element(2, 0), x.element(-1, 0), x.element(8, 0), x.element(MOST, MOST), x.element(LEAST, LEAST));
        due(0, refusalsOf(x));
    }

    private static void ofCutElements() {
        on("what is put in keeps its lowest bits: bytes");
        cut(0, 127, 127, 128, -128, 255, -1, 256, 0, -128, -128, -129, 127, Long.MAX_VALUE, -1, Long.MIN_VALUE, 0);
        on("what is put in keeps its lowest bits: shorts");
        cut(1, 32767, 32767, 32768, -32768, 65535, -1, 65536, 0, -32768, -32768, -32769, 32767, 128, 128,
            Long.MAX_VALUE, -1, Long.MIN_VALUE, 0);
        on("what is put in keeps its lowest bits: ints");
        cut(2, MOST, MOST, 1L << 31, LEAST, (1L << 32) - 1, -1, 1L << 32, 0, LEAST, LEAST, -(1L << 31) - 1, MOST,
            65536, 65536, Long.MAX_VALUE, -1, Long.MIN_VALUE, 0);
        on("what is put in keeps its lowest bits: longs: all of them");
        cut(3, Long.MAX_VALUE, Long.MAX_VALUE, Long.MIN_VALUE, Long.MIN_VALUE, 1L << 32, 1L << 32, -1, -1, 0, 0);
        on("of booleans: whether it is not 0; told they are numbers (1, 0)");
        cut(4, 0, 0, 1, 1, 2, 1, -1, 1, 256, 1, 1L << 32, 1, Long.MIN_VALUE, 1, Long.MAX_VALUE, 1);
    }

    /** What is put into a ROW of this SORT, each with what it becomes there. */
    private static void cut(int sort, long... pairs) {
        x.row(0, sort, 1);
        for (int i = 0; i < pairs.length; i += 2) {
            due(1, x.set(0, 0, pairs[i]));
            due(pairs[i + 1], x.element(0, 0));
        }
    }

    private static void ofCopies() {
        on("copy: n elements come to places j on (as they were): onto itself, forth and back");
        row(x, 0, 2, 1, 2, 3, 4, 5);
        due(4, x.copy(0, 0, 0, 1, 4));
        elementsAre(0, 1, 1, 2, 3, 4);
        due(4, x.copy(0, 0, 1, 0, 4));
        elementsAre(0, 1, 2, 3, 4, 4);
        due(5, x.copy(0, 0, 0, 0, 5));
        elementsAre(0, 1, 2, 3, 4, 4);
        on("copy: the first and the last places of both ROWS");
        row(x, 0, 2, 1, 2, 3);
        row(x, 1, 2, 7, 8, 9, 10);
        due(1, x.copy(0, 1, 2, 3, 1));
        elementsAre(1, 7, 8, 9, 3);
        due(3, x.copy(0, 1, 0, 0, 3));
        elementsAre(1, 1, 2, 3, 3);
        elementsAre(0, 1, 2, 3);
        due(3, x.copy(0, 1, 0, 1, 3));
        elementsAre(1, 1, 1, 2, 3);
        on("copy: no elements at all");
        row(x, 0, 2, 1, 2, 3);
        x.row(1, 2, 0);
        all(0, x.copy(0, 1, 3, 0, 0), x.copy(1, 0, 0, 3, 0), x.copy(1, 1, 0, 0, 0));
        elementsAre(0, 1, 2, 3);
        on("copy: BAD the others");
        more = m -> {
            row(m, 5, 2, 1, 2, 3);
            row(m, 6, 2, 4, 5, 6, 7);
            return 0;
        };
        taken(m -> m.copy(5, 6, 0, 1, 3), m -> m.copy(6, 5, 1, 0, 3), m -> m.copy(5, 6, 3, 4, 0));
        bad(m -> m.copy(5, 6, -1, 0, 1), m -> m.copy(5, 6, 0, -1, 1), m -> m.copy(5, 6, 0, 0, -1),
            m -> m.copy(5, 6, 0, 0, 4), m -> m.copy(6, 5, 0, 0, 4), m -> m.copy(5, 6, 1, 0, 3),
            m -> m.copy(5, 6, 0, 2, 3), m -> m.copy(5, 6, 3, 0, 1), m -> m.copy(5, 6, 0, 4, 1),
            m -> m.copy(5, 6, 4, 0, 0), m -> m.copy(5, 6, 0, 5, 0), m -> m.copy(5, 6, MOST, 0, 1),
            m -> m.copy(5, 6, 0, MOST, 1), m -> m.copy(5, 6, 0, 0, MOST), m -> m.copy(5, 6, 1, 1, MOST),
            m -> m.copy(5, 6, MOST, MOST, MOST), m -> m.copy(5, 6, LEAST, LEAST, LEAST));
        on("copy: OTHER (also ROWS of two SORTS, if both hold something)");
        refused(OTHER, OTHER, m -> m.copy(2, 0, 0, 0, 1), m -> m.copy(0, 2, 0, 0, 1), m -> m.copy(2, 2, 0, 0, 1),
            m -> m.copy(0, 1, 0, 0, 1), m -> m.copy(1, 0, 0, 0, 1), m -> m.copy(0, 4, 0, 0, 0));
        on("copy: NOTHING");
        refused(NOTHING, NOTHING, m -> m.copy(0, 3, 0, 0, 1), m -> m.copy(3, 0, 0, 0, 1), m -> m.copy(3, 5, 0, 0, 1),
            m -> m.copy(3, 3, 0, 0, 0));
        on("copy: BAD SHELVES; OTHER; NOTHING; BAD the others");
        bad(m -> m.copy(-1, 2, 0, 0, 1), m -> m.copy(2, 8, 0, 0, 1), m -> m.copy(3, 8, 0, 0, 1));
        refused(OTHER, OTHER, m -> m.copy(2, 3, 0, 0, 1), m -> m.copy(3, 2, 0, 0, 1), m -> m.copy(0, 1, -1, 0, 1),
            m -> m.copy(2, 0, 0, -1, 1));
        refused(NOTHING, NOTHING, m -> m.copy(0, 3, -1, 0, 1), m -> m.copy(3, 0, 0, 0, -1));
    }

    private static void elementsAre(int s, long... elements) {
        for (int i = 0; i < elements.length; i++) {
            due(elements[i], x.element(s, i));
        }
    }

    private static void ofHolds() {
        on("holds: NONE NOTHING, no SHELF");
        all(NONE, x.holds(0), x.holds(7), x.holds(-1), x.holds(8), x.holds(MOST), x.holds(LEAST));
        due(0, refusalsOf(x));
        on("holds: 0 to 4 a ROW by its SORT, of no elements too");
        for (int sort = 0; sort <= 4; sort++) {
            x.row(sort, sort, 0);
            due(sort, x.holds(sort));
        }
        on("holds: 10 and the KIND of an EVENING");
        for (int kind = 0; kind <= 5; kind++) {
            x.evening(7, kind, 0);
            due(10 + kind, x.holds(7));
        }
        on("status: SHELVES that hold something, of no elements too");
        due(0, x.status(11));
        for (int s = 0; s < 8; s++) {
            due(1, s % 2 == 0 ? x.row(s, 0, 0) : x.evening(s, 0, 0));
            due(s + 1, x.status(11));
        }
        x.row(1, 0, 0);
        due(8, x.status(11));
    }

    private static void ofEvenings() {
        on("evening: a KIND (0 to 5)");
        mayBe(0, 5, (m, kind) -> m.evening(3, kind, 0));
        on("evening: whether it is so or not");
        due(1, x.evening(0, 3, 0));
        due(0, x.isSo(0));
        due(1, x.evening(1, 2, 9999));
        due(0, x.isSo(1));
        on("evening: in place of a ROW");
        row(x, 0, 2, 5);
        x.evening(0, 1, 7);
        due(11, x.holds(0));
        due(0, x.element(0, 0));
        due(7, x.says(0, 0));
    }

    private static void ofSaying() {
        on("says: FULL how far AGE is from 1476");
        int[] ages = {0, 1475, 1476, 1477, 2952};
        int[] far = {1476, 1, 0, 1, 1476};
        x.evening(0, 1, 0);
        for (int i = 0; i < ages.length; i++) {
            x.told(0, ages[i]);
            due(far[i], x.says(0, 1));
        }
        on("says: FAR 28 less OUT");
        x.evening(0, 3, 0);
        due(10, x.says(0, 3));
        x.ask(2, 3396);
        due(0, x.says(0, 3));
        x.ask(2, 3395);
        due(1, x.says(0, 3));
        on("says: NEW AGE");
        x.evening(0, 4, 0);
        due(0, x.says(0, 4));
        x.ask(0, 2952);
        due(2952, x.says(0, 4));
        on("says: WALK how long it SHINES in minutes 1320 to 1439");
        x.evening(0, 5, 0);
        // UP at 720: till 1319; at 721: till 1320; at 840: till 1439; at 1320: from then; at 1439; at 0.
        int[] walkAges = {739, 741, 985, 1969, 2213, 2215};
        int[] ups = {720, 721, 840, 1320, 1439, 0};
        int[] minutes = {0, 1, 120, 120, 1, 0};
        for (int i = 0; i < walkAges.length; i++) {
            x.told(0, walkAges[i]);
            due(ups[i], x.moon(0, 6));
            due(minutes[i], x.says(0, 5));
        }
        on("says: OTHER also if it is of no such KIND nor of one under it");
        int[][] under = {{0}, {0, 1}, {0, 1, 2}, {0, 3}, {0, 4}, {0, 1, 5}};
        for (int kind = 0; kind <= 5; kind++) {
            x.evening(kind, kind, 0);
            int taken = 0;
            for (int wanted : under[kind]) {
                due(1, x.says(kind, wanted) >= 0 ? 1 : 0);
                taken++;
            }
            int others = x.status(13);
            for (int wanted = 0; wanted <= 5; wanted++) {
                x.says(kind, wanted);
            }
            due(others + 6 - taken, x.status(13));
        }
        on("says: OTHER; NOTHING");
        refused(OTHER, OTHER, m -> m.says(0, 0), m -> m.says(0, 5), m -> m.says(2, 5), m -> m.says(2, 3));
        refused(NOTHING, NOTHING, m -> m.says(3, 0), m -> m.says(3, 5));
        on("says: BAD SHELF, KIND; OTHER; NOTHING");
        bad(m -> m.says(0, -1), m -> m.says(0, 6), m -> m.says(3, 6), m -> m.says(3, -1), m -> m.says(-1, 0),
            m -> m.says(8, 0), m -> m.says(2, MOST), m -> m.says(2, LEAST));
        taken(m -> m.says(2, 0), m -> m.says(2, 1), m -> m.says(2, 2));
    }

    private static void ofBeingSo() {
        on("isSo: as its KIND has it, on DAY 0 and DAY 9999");
        for (int kind = 0; kind <= 5; kind++) {
            x.evening(0, kind, 0);
            due(x.is(0, kind), x.isSo(0));
            x.evening(0, kind, 9999);
            due(x.is(9999, kind), x.isSo(0));
        }
        x.told(9999, 1476);
        x.evening(0, 2, 9999);
        due(0, x.isSo(0));
        x.evening(0, 1, 9999);
        due(1, x.isSo(0));
        on("isSo: OTHER; NOTHING");
        refused(OTHER, OTHER, m -> m.isSo(0), m -> m.isSo(4));
        refused(NOTHING, NOTHING, m -> m.isSo(3), m -> m.isSo(7));
        due(0, x.status(13));
    }

    private static void ofClouds() {
        on("CLOUDS: 8 at most: how many are; FULL");
        for (int i = 1; i <= 8; i++) {
            due(i, x.cloud(9999 - i));
        }
        due(FULL, x.cloud(0));
        more = m -> clouds(m, 6);
        refused(FULL, FULL, m -> m.cloud(0), m -> m.cloud(9999));
        on("cloud: STUCK: one is");
        refused(STUCK, STUCK, m -> m.cloud(2), m -> m.cloud(40));
        on("cloud: BAD; STUCK; FULL");
        more = m -> clouds(m, 6);
        bad(m -> m.cloud(-1), m -> m.cloud(10000));
        refused(STUCK, STUCK, m -> m.cloud(2), m -> m.cloud(105));
        on("cloud: one that has gone may be told again");
        x.cloud(0);
        x.clear(2);
        due(1, x.cloud(0));
    }

    private static void ofClearing() {
        on("clear: NOTCHES (what 0), STONES (1), CLOUDS (2)");
        mayBe(0, 2, (m, what) -> m.clear(what));
        on("clear: how many there were: none");
        all(0, x.clear(0), x.clear(1), x.clear(2));
        on("clear: how many there were: as many as may be; they have room again");
        notches(x, 8);
        stones(x, 6);
        clouds(x, 8);
        due(8, x.clear(0));
        due(6, x.clear(1));
        due(8, x.clear(2));
        due(0, x.notch(0, 0, 0));
        due(0, x.stone(0));
        due(1, x.cloud(0));
        on("clear: the others stay");
        notches(x, 2);
        stones(x, 3);
        clouds(x, 4);
        due(3, x.clear(1));
        due(2, x.status(0));
        due(4, x.status(2));
        due(2, x.clear(0));
        due(4, x.clear(2));
        on("clear: the SKY LINE goes with them");
        x.notch(0, 179, 30);
        x.clear(0);
        all(0, x.line(0), x.line(90), x.line(179), x.moon(0, 5));
        x.notch(5, 6, 1);
        due(1, x.line(5));
        due(0, x.line(7));
        due(5, x.notchOf(0, 0));
        due(6, x.notchOf(0, 1));
        due(1, x.notchOf(0, 2));
        due(BAD, x.notchOf(1, 0));
        on("clear: no STONE and no CLOUD of those that went comes back");
        x.stone(7);
        x.cloud(7);
        x.clear(1);
        x.clear(2);
        x.stone(8);
        due(8, x.stoneOf(0));
        due(BAD, x.stoneOf(1));
        due(1, x.cloud(8));
        due(2, x.cloud(7));
    }

    private static void ofThings() {
        on("notchOf: of a NOTCH: BAD, nothing of that number");
        mayBe(0, 1, (m, i) -> m.notchOf(i, 0));
        all(BAD, x.notchOf(0, 0), x.notchOf(-1, 0));
        x.notch(1, 2, 3);
        due(1, x.notchOf(0, 0));
        due(BAD, x.notchOf(1, 0));
        x.clear(0);
        due(BAD, x.notchOf(0, 0));
        on("notchOf: the eighth, the ninth");
        notches(x, 8);
        due(107, x.notchOf(7, 0));
        due(117, x.notchOf(7, 1));
        due(7, x.notchOf(7, 2));
        due(BAD, x.notchOf(8, 0));
        on("notchOf: FROM (0), TO (1), HEIGHT (2)");
        mayBe(0, 2, (m, what) -> m.notchOf(0, what));
        on("stoneOf: BAD, nothing of that number");
        mayBe(0, 2, (m, i) -> m.stoneOf(i));
        due(BAD, x.stoneOf(0));
        stones(x, 6);
        due(5, x.stoneOf(5));
        due(BAD, x.stoneOf(6));
        x.clear(1);
        due(BAD, x.stoneOf(0));
        on("overs: BAD, no NOTCH of that number");
        mayBe(0, 1, (m, i) -> m.overs(0, 1, i, NONE));
        due(BAD, x.overs(0, 1, 0, NONE));
    }

    private static void ofMoon() {
        on("moon: AGE (0) .. the degree at UP (8)");
        mayBe(0, 8, (m, what) -> m.moon(0, what));
        on("moon: DAY 9999, all but LATER");
        int[] told = {1786, 79, 27, 1230, 90, 0, 1230, BAD, 90};
        for (int what = 0; what <= 8; what++) {
            due(told[what], x.moon(9999, what));
        }
        due(1, x.status(12));
        on("grows: AGE 1476 at most");
        int[] ages = {0, 1476, 1477, 2952};
        int[] grows = {1, 1, 0, 0};
        for (int i = 0; i < ages.length; i++) {
            x.told(0, ages[i]);
            due(grows[i], x.grows(0));
        }
    }

    private static void ofWalks() {
        on("walks: x minutes (0 to 1440)");
        mayBe(0, 1440, (m, minutes) -> m.walks(0, 1, 0, 1439, minutes, NONE));
        on("walks: x minutes at least");
        due(1, x.walks(0, 1, 0, 1439, 600, NONE));
        due(0, x.walks(0, 1, 0, 1439, 601, NONE));
        due(0, x.walks(0, 1, 0, 1439, 1440, NONE));
        due(1, x.walks(0, 1, 0, 360, 1, NONE));
        due(0, x.walks(0, 1, 0, 359, 1, NONE));
        due(1, x.walks(0, 1, 0, 359, 0, NONE));
        on("walks: how many (i NONE), the i-th; STUCK: no such one");
        due(4, x.walks(0, 4, 0, 1439, 1, NONE));
        due(0, x.walks(0, 4, 0, 1439, 1, 0));
        due(3, x.walks(0, 4, 0, 1439, 1, 3));
        refused(STUCK, STUCK, m -> m.walks(0, 4, 0, 1439, 1, 4), m -> m.walks(0, 4, 0, 1439, 1440, 0),
            m -> m.walks(0, 4, 0, 1439, 1, MOST));
        on("walks: an i below NONE may not be; BAD; STUCK");
        bad(m -> m.walks(0, 4, 0, 1439, 1, -2), m -> m.walks(0, 4, 0, 1439, 1, LEAST),
            m -> m.walks(0, 4, 9, 8, 1, 99), m -> m.walks(0, 4, 0, 1439, 1441, 99));
    }

    private static void ofOvers() {
        on("overs: DAYS on which BEHIND is a NOTCH: how many, the i-th");
        x.notch(80, 90, 1);
        due(3, x.overs(0, 8, 0, NONE));
        due(0, x.overs(0, 8, 0, 0));
        due(2, x.overs(0, 8, 0, 2));
        due(2, x.overs(0, 2, 0, NONE));
        due(0, x.overs(3, 5, 0, NONE));
        on("overs: STUCK: no such one");
        more = m -> m.clear(0) + m.notch(0, 0, 30);
        refused(STUCK, STUCK, m -> m.overs(0, 1000, 0, 0), m -> m.overs(0, 1000, 0, MOST));
        taken(m -> m.overs(0, 1000, 0, NONE));
        on("overs: an i below NONE may not be; BAD; STUCK");
        bad(m -> m.overs(0, 1, 0, -2), m -> m.overs(0, 1, 0, LEAST), m -> m.overs(0, 1, 2, 99),
            m -> m.overs(0, 0, 0, 99));
    }

    private static void ofLates() {
        on("lates: the least (what 0), the greatest (1), the sum (2)");
        mayBe(0, 2, (m, what) -> m.lates(0, 1, what));
        // LATER of DAYS 0 to 4: 42 40 43 40 39.
        due(39, x.lates(0, 5, 0));
        due(43, x.lates(0, 5, 1));
        due(204, x.lates(0, 5, 2));
        on("lates: the n-th DAY counts, the next one doesn't");
        due(40, x.lates(0, 4, 0));
        due(42, x.lates(0, 2, 1));
        due(43, x.lates(0, 3, 1));
        on("lates: LATER 0 and 1439");
        x.notch(86, 95, 8);
        all(0, x.lates(1, 1, 0), x.lates(1, 1, 1), x.lates(1, 1, 2));
        x.clear(0);
        x.notch(86, 97, 9);
        x.notch(80, 80, 1);
        all(1439, x.lates(1, 1, 0), x.lates(1, 1, 1), x.lates(1, 1, 2));
        on("lates: none beyond 9998 counts");
        all(36, x.lates(9998, 1, 0), x.lates(9998, 2, 0), x.lates(9998, 2, 1), x.lates(9998, 1000, 2));
        due(x.moon(9997, 7) + 36, x.lates(9997, 1000, 2));
        on("lates: STUCK: none counts");
        refused(STUCK, STUCK, m -> m.lates(9999, 1, 0), m -> m.lates(9999, 1000, 2));
        on("lates: BAD; STUCK");
        bad(m -> m.lates(9999, 0, 0), m -> m.lates(9999, 1001, 0), m -> m.lates(9999, 1, 3), m -> m.lates(9999, 1, -1));
    }

    private static void ofDates() {
        on("date: 1 on the DAY that is NEW, and so on");
        due(1, x.date(0));
        due(2, x.date(1));
        due(30, x.date(29));
        due(1, x.date(30));
        x.told(30, 99);
        due(1, x.date(30));
        due(2, x.date(31));
        on("date: STUCK: there was no such DAY from DAY 0 on");
        int[] ages = {99, 100, 199, 200, 2952};
        int[] first = {0, 29, 28, 28, 1};
        for (int i = 0; i < ages.length; i++) {
            x.told(0, ages[i]);
            due(1, x.date(first[i]));
            if (first[i] > 0) {
                due(STUCK, x.date(first[i] - 1));
                due(STUCK, x.date(0));
            }
        }
        more = m -> m.told(0, 100);
        refused(STUCK, STUCK, m -> m.date(0), m -> m.date(28));
        taken(m -> m.date(29));
        on("months: DAYS from 0 to this one: DAY 0 counts, and this one");
        due(1, x.months(0));
        due(1, x.months(29));
        due(2, x.months(30));
        x.told(0, 99);
        due(1, x.months(0));
        x.told(0, 100);
        due(0, x.months(0));
        due(0, x.months(28));
        due(1, x.months(29));
        x.told(0, 2952);
        due(0, x.months(0));
        due(1, x.months(1));
        on("months: OFF beyond a month");
        int[] offs = {2953, 3052, 3053, 5905, 5906, 8859, 9999};
        int[] months = {1, 1, 0, 0, 1, 1, 0};
        for (int i = 0; i < offs.length; i++) {
            x.ask(0, offs[i]);
            due(months[i], x.months(0));
        }
        on("months: DAY 9999");
        due(339, x.months(9999));
    }

    private static void ofEclipses() {
        on("eclipse: 80 at most or 1286 at least, modulo 1366");
        int[] nodes = {0, 80, 81, 1285, 1286, 1365, 1366, 1446, 1447, 2651, 2652, 9999};
        int[] so = {1, 1, 0, 0, 1, 1, 1, 1, 0, 0, 1, 0};
        x.ask(0, 1476);
        for (int i = 0; i < nodes.length; i++) {
            x.ask(1, nodes[i]);
            due(so[i], x.eclipse(0) == 0 ? 1 : 0);
        }
        on("eclipse: FULL");
        int[] offs = {1426, 1427, 1526, 1527};
        int[] full = {0, 1, 1, 0};
        for (int i = 0; i < offs.length; i++) {
            x.ask(0, offs[i]);
            due(full[i], x.eclipse(0) == 0 ? 1 : 0);
        }
        on("eclipse: from d on; none beyond 9999; NONE isn't refused");
        due(192, x.eclipse(192));
        due(9671, x.eclipse(9671));
        due(NONE, x.eclipse(9672));
        due(NONE, x.eclipse(9999));
        due(0, refusalsOf(x));
    }

    private static void ofSeeing() {
        on("sees: minute m of the day (0 to 1439)");
        // DAY 1 is there at both ends of the day.
        mayBe(0, 1439, (m, minute) -> m.sees(1, minute, 0));
        mayBe(0, 1439, (m, minute) -> m.sees(1, minute, 1));
        on("sees: height (what 0), at which degree (1)");
        mayBe(0, 1, (m, what) -> m.sees(1, 1439, what));
        on("AT minute m: 600 minutes at most; else it isn't there: STUCK");
        // DAY 0: RISE 360, WAY 90.
        due(0, x.sees(0, 360, 0));
        due(90, x.sees(0, 360, 1));
        due(120, x.sees(0, 960, 0));
        due(240, x.sees(0, 960, 1));
        all(STUCK, x.sees(0, 359, 0), x.sees(0, 359, 1), x.sees(0, 961, 0), x.sees(0, 961, 1));
        more = m -> m.ask(0, 0) + m.ask(1, 0) + m.ask(2, 0);
        refused(STUCK, STUCK, m -> m.sees(0, 359, 0), m -> m.sees(0, 961, 1), m -> m.sees(0, 1439, 0));
        on("m by 5 degrees high, at WAY and m by 4, cut");
        due(0, x.sees(0, 364, 0));
        due(1, x.sees(0, 365, 0));
        due(90, x.sees(0, 363, 1));
        due(91, x.sees(0, 364, 1));
        on("AT minute m: behind RISE, modulo 1440");
        x.told(0, 2213);
        due(1439, x.moon(0, 3));
        due(0, x.sees(0, 1439, 0));
        due(0, x.sees(0, 0, 0));
        due(1, x.sees(0, 4, 0));
        due(120, x.sees(0, 599, 0));
        due(STUCK, x.sees(0, 600, 0));
        due(STUCK, x.sees(0, 1438, 0));
        on("AT minute m: behind RISE: the hill doesn't matter");
        x.notch(0, 179, 30);
        due(0, x.sees(0, 360, 0));
        due(120, x.sees(0, 960, 0));
        on("sees: BAD; STUCK");
        more = m -> m.ask(0, 0) + m.ask(1, 0) + m.ask(2, 0);
        bad(m -> m.sees(0, 359, 2), m -> m.sees(0, 359, -1), m -> m.sees(0, 1440, 0), m -> m.sees(0, -1, 0));
    }

    private static void ofRowsTooShort() {
        on("court, eager, bone: n (1 to 40)");
        more = m -> m.row(5, 2, 40);
        mayBe(1, 40, (m, n) -> m.court(5, n));
        mayBe(1, 40, (m, n) -> m.eager(5, n));
        mayBe(1, 40, (m, n) -> m.bone(5, n, 0));
        on("court, eager, bone: BAD: fewer elements");
        more = m -> m.row(7, 2, 0);
        taken(m -> m.court(1, 3), m -> m.eager(1, 3), m -> m.bone(1, 3, 0));
        bad(m -> m.court(1, 4), m -> m.eager(1, 4), m -> m.bone(1, 4, 0), m -> m.court(7, 1), m -> m.eager(7, 1),
            m -> m.bone(7, 1, 2), m -> m.court(1, 40), m -> m.eager(1, 40), m -> m.bone(1, 40, 1));
        on("court, eager, bone: OTHER; NOTHING");
        refused(OTHER, OTHER, m -> m.court(2, 1), m -> m.eager(2, 40), m -> m.bone(2, 1, 0));
        refused(NOTHING, NOTHING, m -> m.court(3, 1), m -> m.eager(3, 40), m -> m.bone(3, 1, 0));
        on("court, eager, bone: BAD SHELF, n (what) ahead of OTHER and NOTHING");
        bad(m -> m.court(2, 0), m -> m.court(3, 41), m -> m.eager(2, 41), m -> m.eager(3, 0), m -> m.bone(2, 0, 0),
            m -> m.bone(3, 41, 0), m -> m.bone(2, 1, 3), m -> m.bone(3, 1, -1));
    }

    private static void ofTold() {
        on("told: v (0 to 2952)");
        mayBe(0, 2952, (m, v) -> m.told(0, v));
        on("told: the least OFF by which it is so; OFF becomes that");
        int[] days = {0, 0, 1, 1, 1, 29, 30, 9999, 9999, 9999};
        int[] ages = {0, 2952, 0, 99, 100, 2900, 47, 1785, 1786, 2952};
        int[] offs = {0, 2952, 2853, 2952, 0, 0, 0, 2952, 0, 1166};
        for (int i = 0; i < days.length; i++) {
            due(offs[i], x.told(days[i], ages[i]));
            due(offs[i], x.status(3));
            due(ages[i], x.moon(days[i], 0));
        }
    }

    private static void ofSeed() {
        on("seed: SEED becomes v: the one ahead; any int");
        due(1, x.seed(0));
        due(0, x.seed(MOST));
        due(MOST, x.seed(LEAST));
        due(LEAST, x.seed(-1));
        due(-1, x.status(10));
        due(0, refusalsOf(x));
    }

    private static void ofKeeping() {
        on("back: STUCK: nothing was");
        due(STUCK, x.back());
        due(1, x.status(15));
        due(STUCK, x.back());
        due(2, x.status(15));
        on("image: of a new object");
        due(1, x.image());
        notches(x, 8);
        stones(x, 6);
        clouds(x, 8);
        x.ask(0, 1);
        x.ask(1, 2);
        x.ask(2, 3);
        x.ask(3, 9);
        x.looks(40);
        due(1, x.back());
        int[] atFirst = {0, 0, 0, 0, 0, 0, 3, 0, 0, 0, 1, 0};
        for (int what = 0; what < atFirst.length; what++) {
            due(atFirst[what], x.status(what));
        }
        all(0, x.line(100), x.line(117));
        on("image: of all that there may be");
        notches(x, 8);
        stones(x, 6);
        clouds(x, 8);
        due(1, x.image());
        x.clear(0);
        x.clear(1);
        x.clear(2);
        due(1, x.back());
        due(8, x.status(0));
        due(7, x.notchOf(7, 2));
        due(7, x.line(117));
        due(5, x.stoneOf(5));
        due(STUCK, x.cloud(107));
        all(FULL, x.notch(0, 0, 0), x.stone(0), x.cloud(0));
        on("image: all is kept, but THE TAPE, SHELVES and REFUSALS");
        feed(x, "ab");
        x.row(0, 0, 1);
        x.feed(256);
        x.image();
        x.feed(99);
        x.row(1, 0, 1);
        x.set(0, 0, 7);
        x.feed(256);
        x.back();
        due(3, x.status(9));
        due(2, x.status(11));
        due(7, x.element(0, 0));
        due(2, x.status(12));
        on("back: again and again; what was kept stays as it was");
        x.notch(5, 6, 7);
        x.image();
        for (int i = 0; i < 3; i++) {
            x.clear(0);
            x.notch(8, 9, 10);
            x.stone(1);
            due(1, x.back());
            due(1, x.status(0));
            due(0, x.status(1));
            due(7, x.line(5));
            due(0, x.line(8));
        }
        on("image: the later one takes the earlier one's place");
        x.image();
        x.ask(0, 5);
        x.image();
        x.ask(0, 6);
        x.back();
        due(5, x.status(3));
        on("TODAY, LOOKS and SEED go back, too");
        x.looks(20);
        int looks = x.status(8);
        int seed = x.status(10);
        x.image();
        x.looks(40);
        x.back();
        due(20, x.status(7));
        due(looks, x.status(8));
        due(seed, x.status(10));
    }

    private static void ofStatus() {
        on("status: NONE another what");
        all(NONE, x.status(-1), x.status(17), x.status(MOST), x.status(LEAST));
        due(0, refusalsOf(x));
        on("12 to 16: REFUSALS -2 to -6");
        x.row(8, 0, 0);
        due(1, x.status(12));
        x.row(0, 0, 0);
        x.isSo(0);
        x.isSo(0);
        due(2, x.status(13));
        for (int i = 0; i < 3; i++) {
            x.isSo(1);
        }
        due(3, x.status(14));
        for (int i = 0; i < 4; i++) {
            x.back();
        }
        due(4, x.status(15));
        fill(x, 255);
        due(5, x.status(16));
        all(1, x.status(12));
        on("REFUSALS: those that answer -1000000 and the number, and a SKY's, count by their number");
        x.slant(-1);
        x.meant(-1, 1, 0);
        x.sky();
        due(3, x.status(12));
        x.meant(0, 1, 0);
        due(1, x.status(15));
        due(4, refusalsOf(x));
    }
}
