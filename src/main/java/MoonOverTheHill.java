import java.util.Arrays;

/** The moon over the hill, by told sums; ../shared/DOC.md says what each call answers. */
public final class MoonOverTheHill {
    public static final int NONE = -1;

    private static final int FINE = 0;
    private static final int BAD = -2;
    private static final int OTHER = -3;
    private static final int NOTHING = -4;
    private static final int STUCK = -5;
    // The document's FULL: here FULL is the KIND of an EVENING alone.
    private static final int NO_ROOM = -6;
    // SLANT and MEANT may be below 0, so calls that tell them refuse from far below.
    private static final int FAR_BELOW = -1000000;
    private static final int FAULT_BELOW = -20;

    private static final int LAST_DAY = 9999;
    private static final int MOST_DAYS = 1000;
    private static final int LAST_MINUTE = 1439;
    private static final int MINUTES = 1440;
    private static final int LAST_DEGREE = 179;
    private static final int DEGREES = 180;
    private static final int LAST_LINE_DEGREE = 999;
    private static final int HIGHEST_NOTCH = 30;
    private static final int LARGEST_ASKED = 9999;
    private static final int LARGEST_CLOUD = 9;
    private static final int WIDEST = 20;
    private static final int BEST_EYES = 50;
    private static final int MOST_TOGETHER = 40;
    private static final int LAST_SORT = 4;

    private static final int MONTH = 2953;
    private static final int HALF_MONTH = 1476;
    private static final int FARTHEST_OUT = 28;
    private static final int PICTURE_ELEMENTS = 8;

    // The KINDS of EVENINGS.
    private static final int EVENING = 0;
    private static final int FULL = 1;
    private static final int FLAT = 2;
    private static final int FAR = 3;
    private static final int NEW = 4;
    private static final int WALK = 5;
    // What else a Question may be about; the numbers stand behind those of the KINDS.
    private static final int BETWEEN = 6;
    private static final int SHINING = 7;
    private static final int BEHIND = 8;
    private static final int ECLIPSED = 9;
    private static final int VISIBLE = 10;
    private static final int PICTURED = 11;

    // What ask() sets.
    private static final int OFF = 0;
    private static final int NODE = 1;
    private static final int SWING = 2;
    private static final int CLOUD = 3;

    // What the best DAY is best by.
    private static final int LEAST_LATER = 0;
    private static final int GREATEST_SLANT = 1;
    private static final int LEAST_OVER = 2;
    private static final int GREATEST_LIGHT = 3;

    private final State now = new State();
    private final State draft = new State();
    private final State kept = new State();
    private final Moon moon = new Moon(now);
    private final Tape tape = new Tape();
    private final Places places = new Places();
    private final Shelf[] shelves = new Shelf[8];
    private final int[] refusals = new int[5];
    private boolean isKept;

    public MoonOverTheHill() {
        for (int s = 0; s < shelves.length; s++) {
            shelves[s] = new Shelf();
        }
    }

    // ---- SHELVES

    public int row(int s, int sort, int n) {
        Shelf shelf = shelfAt(s);
        if (shelf == null || !isIn(sort, 0, LAST_SORT) || !isIn(n, 0, Shelf.ROOM)) {
            return refuse(BAD);
        }
        shelf.putRow(sort, n);
        return 1;
    }

    public int set(int s, int i, long v) {
        Shelf shelf = shelfAt(s);
        if (shelf == null) {
            return refuse(BAD);
        }
        int refusal = shelf.refusalAsRow(0);
        if (refusal != FINE) {
            return refuse(refusal);
        }
        if (!shelf.hasPlaces(i, 1)) {
            return refuse(BAD);
        }
        shelf.put(i, v);
        return 1;
    }

    public int copy(int p, int q, int i, int j, int n) {
        Shelf from = shelfAt(p);
        Shelf to = shelfAt(q);
        if (from == null || to == null) {
            return refuse(BAD);
        }
        if (from.isEvening() || to.isEvening() || from.isRowOfOtherSort(to)) {
            return refuse(OTHER);
        }
        if (from.isBare() || to.isBare()) {
            return refuse(NOTHING);
        }
        if (!from.hasPlaces(i, n) || !to.hasPlaces(j, n)) {
            return refuse(BAD);
        }
        to.take(from, i, j, n);
        return n;
    }

    public long element(int s, int i) {
        Shelf shelf = shelfAt(s);
        return shelf == null || !shelf.isRow() ? 0L : shelf.at(i);
    }

    public int holds(int s) {
        Shelf shelf = shelfAt(s);
        return shelf == null ? NONE : shelf.content();
    }

    public int evening(int s, int kind, int day) {
        Shelf shelf = shelfAt(s);
        if (shelf == null || !isKind(kind) || !isDay(day)) {
            return refuse(BAD);
        }
        shelf.putEvening(kind, day);
        return 1;
    }

    public int says(int s, int kind) {
        Shelf shelf = shelfAt(s);
        if (shelf == null || !isKind(kind)) {
            return refuse(BAD);
        }
        if (shelf.isBare()) {
            return refuse(NOTHING);
        }
        if (shelf.isRow() || !isUnder(shelf.kind(), kind)) {
            return refuse(OTHER);
        }
        return moon.saysOf(shelf.day(), kind);
    }

    public int isSo(int s) {
        Shelf shelf = shelfAt(s);
        if (shelf == null) {
            return refuse(BAD);
        }
        if (shelf.isBare()) {
            return refuse(NOTHING);
        }
        if (shelf.isRow()) {
            return refuse(OTHER);
        }
        return moon.fits(new Question(shelf.kind()), shelf.day()) ? 1 : 0;
    }

    // ---- how it all stands

    public int ask(int what, int v) {
        if (!isIn(what, OFF, CLOUD) || !isIn(v, 0, what == CLOUD ? LARGEST_CLOUD : LARGEST_ASKED)) {
            return refuse(BAD);
        }
        int before = now.askedOf(what);
        now.setAsked(what, v);
        return before;
    }

    public int notch(int from, int to, int height) {
        if (!isIn(from, 0, LAST_DEGREE) || !isIn(to, from, LAST_DEGREE) || !isIn(height, 0, HIGHEST_NOTCH)) {
            return refuse(BAD);
        }
        if (now.hill.isFull()) {
            return refuse(NO_ROOM);
        }
        now.hill.add(from, to, height);
        return now.hill.count() - 1;
    }

    public int stone(int degree) {
        if (!isIn(degree, 0, LAST_DEGREE)) {
            return refuse(BAD);
        }
        if (now.stones.isFull()) {
            return refuse(NO_ROOM);
        }
        now.stones.add(degree);
        return now.stones.count() - 1;
    }

    public int cloud(int day) {
        if (!isDay(day)) {
            return refuse(BAD);
        }
        if (now.clouds.contains(day)) {
            return refuse(STUCK);
        }
        if (now.clouds.isFull()) {
            return refuse(NO_ROOM);
        }
        now.clouds.add(day);
        return now.clouds.count();
    }

    public int clear(int what) {
        int before;
        switch (what) {
            case 0:
                before = now.hill.count();
                now.hill.empty();
                return before;
            case 1:
                before = now.stones.count();
                now.stones.empty();
                return before;
            case 2:
                before = now.clouds.count();
                now.clouds.empty();
                return before;
            default:
                return refuse(BAD);
        }
    }

    // ---- THE TAPE

    public int feed(int letter) {
        if (!isIn(letter, 0, 255)) {
            return refuse(BAD);
        }
        if (tape.isFull()) {
            return refuse(NO_ROOM);
        }
        tape.add(letter);
        return tape.size();
    }

    public int wipe() {
        int before = tape.size();
        tape.empty();
        return before;
    }

    public int sky() {
        // It is read into a draft, so that a FAULT leaves nothing behind.
        draft.become(now);
        int statements = tape.read(draft);
        int fault = tape.fault();
        tape.empty();
        if (statements == NONE) {
            refuse(BAD);
            return FAULT_BELOW - fault;
        }
        now.become(draft);
        return statements;
    }

    // ---- the hill, the stones and the moon of a DAY

    public int notchOf(int notch, int what) {
        if (!isIn(notch, 0, now.hill.count() - 1) || !isIn(what, 0, 2)) {
            return refuse(BAD);
        }
        return now.hill.partOf(notch, what);
    }

    public int stoneOf(int stone) {
        if (!isStone(stone)) {
            return refuse(BAD);
        }
        return now.stones.at(stone);
    }

    public int line(int degree) {
        if (!isIn(degree, 0, LAST_LINE_DEGREE)) {
            return refuse(BAD);
        }
        return now.hill.lineAt(degree);
    }

    public int moon(int day, int what) {
        if (!isDay(day)) {
            return refuse(BAD);
        }
        switch (what) {
            case 0:
                return moon.ageOf(day);
            case 1:
                return moon.litOf(day);
            case 2:
                return moon.outOf(day);
            case 3:
                return moon.riseOf(day);
            case 4:
                return moon.wayOf(day);
            case 5:
                return moon.overOf(day);
            case 6:
                return moon.upOf(day);
            case 7:
                return day == LAST_DAY ? refuse(BAD) : moon.laterOf(day);
            case 8:
                return moon.degreeOf(day);
            default:
                return refuse(BAD);
        }
    }

    public int slant(int day) {
        return isDay(day) ? moon.slantOf(day) : refuseFarBelow(BAD);
    }

    public int behind(int day) {
        return isDay(day) ? moon.behindOf(day) : refuse(BAD);
    }

    public int is(int day, int kind) {
        if (!isDay(day) || !isKind(kind)) {
            return refuse(BAD);
        }
        return moon.fits(new Question(kind), day) ? 1 : 0;
    }

    public int shines(int day, int f, int t) {
        if (!isDay(day) || !areMinutes(f, t)) {
            return refuse(BAD);
        }
        return moon.shinesOf(day, f, t);
    }

    public int light(int day, int f, int t) {
        if (!isDay(day) || !areMinutes(f, t)) {
            return refuse(BAD);
        }
        return moon.lightOf(day, f, t);
    }

    // ---- which DAYS

    public int next(int day, int kind) {
        if (!isDay(day) || !isKind(kind)) {
            return refuse(BAD);
        }
        return moon.pick(day, MOST_DAYS, 0, new Question(kind));
    }

    public int many(int day, int n, int kind) {
        if (!areDays(day, n) || !isKind(kind)) {
            return refuse(BAD);
        }
        return moon.pick(day, n, NONE, new Question(kind));
    }

    public int between(int day, int n, int a, int b, int i) {
        if (!areDays(day, n) || !isIn(a, 0, LAST_LINE_DEGREE) || !isIn(b, a, LAST_LINE_DEGREE) || i < NONE) {
            return refuse(BAD);
        }
        return orStuck(moon.pick(day, n, i, new Question(BETWEEN, a, b, 0)));
    }

    public int alike(int day) {
        // The last of the 8 DAYS has a LATER only if there is a DAY behind it.
        if (!isIn(day, 0, LAST_DAY - 8)) {
            return refuse(BAD);
        }
        return moon.bestOf(day, 8, LEAST_LATER);
    }

    public int farthest(int day, int n) {
        return areDays(day, n) ? moon.bestOf(day, n, GREATEST_SLANT) : refuse(BAD);
    }

    public int grows(int day) {
        if (!isDay(day)) {
            return refuse(BAD);
        }
        return moon.ageOf(day) <= HALF_MONTH ? 1 : 0;
    }

    public int lights(int day, int n, int f, int t) {
        if (!isDay(day) || !isIn(n, 1, MOST_TOGETHER) || !areMinutes(f, t)) {
            return refuse(BAD);
        }
        int sum = 0;
        int last = Moon.lastOf(day, n);
        for (int d = day; d <= last; d++) {
            sum += moon.lightOf(d, f, t);
        }
        return sum;
    }

    public int soonest(int day, int n) {
        return areDays(day, n) ? moon.bestOf(day, n, LEAST_OVER) : refuse(BAD);
    }

    public int brightest(int day, int n) {
        return areDays(day, n) ? moon.bestOf(day, n, GREATEST_LIGHT) : refuse(BAD);
    }

    public int walks(int day, int n, int f, int t, int x, int i) {
        if (!areDays(day, n) || !areMinutes(f, t) || !isIn(x, 0, MINUTES) || i < NONE) {
            return refuse(BAD);
        }
        return orStuck(moon.pick(day, n, i, new Question(SHINING, f, t, x)));
    }

    public int overs(int day, int n, int notch, int i) {
        if (!areDays(day, n) || !isIn(notch, 0, now.hill.count() - 1) || i < NONE) {
            return refuse(BAD);
        }
        return orStuck(moon.pick(day, n, i, new Question(BEHIND, notch, 0, 0)));
    }

    public int lates(int day, int n, int what) {
        if (!areDays(day, n) || !isIn(what, 0, 2)) {
            return refuse(BAD);
        }
        if (day == LAST_DAY) {
            return refuse(STUCK);
        }
        int last = Math.min(Moon.lastOf(day, n), LAST_DAY - 1);
        int least = LAST_MINUTE;
        int greatest = 0;
        int sum = 0;
        for (int d = day; d <= last; d++) {
            int later = moon.laterOf(d);
            least = Math.min(least, later);
            greatest = Math.max(greatest, later);
            sum += later;
        }
        if (what == 0) {
            return least;
        }
        return what == 1 ? greatest : sum;
    }

    public int date(int day) {
        if (!isDay(day)) {
            return refuse(BAD);
        }
        // A DAY adds 100 to AGE, so the NEW one was as many DAYS ago as AGE has hundreds.
        int ago = moon.ageOf(day) / 100;
        return ago > day ? refuse(STUCK) : ago + 1;
    }

    public int months(int day) {
        return isDay(day) ? moon.newDaysTill(day) : refuse(BAD);
    }

    public int eclipse(int day) {
        return isDay(day) ? moon.pick(day, MOST_DAYS, 0, new Question(ECLIPSED)) : refuse(BAD);
    }

    // ---- pictures and witnesses

    public int sees(int day, int m, int what) {
        if (!isDay(day) || !isIn(m, 0, LAST_MINUTE) || !isIn(what, 0, 1)) {
            return refuse(BAD);
        }
        return orStuck(what == 0 ? moon.heightAt(day, m) : moon.degreeAt(day, m));
    }

    public int picture(int s, int day, int what) {
        Shelf row = shelfAt(s);
        if (row == null || !isDay(day) || !isIn(what, 0, 1)) {
            return refuse(BAD);
        }
        int refusal = row.refusalAsRow(PICTURE_ELEMENTS);
        if (refusal != FINE) {
            return refuse(refusal);
        }
        long m = row.at(6);
        long n = row.at(7);
        if (n < 1 || n > MOST_DAYS || m < 0 || m > LAST_MINUTE) {
            return refuse(BAD);
        }
        return orStuck(moon.pick(day, (int) n, what == 0 ? NONE : 0, new Question(row)));
    }

    public int seen(int day, int eyes) {
        if (!isDay(day) || !isIn(eyes, 0, BEST_EYES)) {
            return refuse(BAD);
        }
        return moon.pick(day, MOST_DAYS, 0, new Question(VISIBLE, eyes, 0, 0));
    }

    public int court(int s, int n) {
        Shelf row = shelfAt(s);
        if (row == null || !isIn(n, 1, MOST_TOGETHER)) {
            return refuse(BAD);
        }
        int refusal = row.refusalAsRow(n);
        return refusal != FINE ? refuse(refusal) : toldByMost(row, n);
    }

    public int eager(int s, int n) {
        Shelf row = shelfAt(s);
        if (row == null || !isIn(n, 1, MOST_TOGETHER)) {
            return refuse(BAD);
        }
        int refusal = row.refusalAsRow(n);
        if (refusal != FINE) {
            return refuse(refusal);
        }
        int wrong = 0;
        for (int i = 0; i < n; i++) {
            if (!moon.couldBegin(row.at(i))) {
                wrong++;
            }
        }
        return wrong;
    }

    // ---- tides and bones

    public int tide(int day, int m) {
        if (!isDay(day) || !isIn(m, 0, LAST_MINUTE)) {
            return refuse(BAD);
        }
        return moon.tideAt(day, m);
    }

    public int high(int day) {
        return isDay(day) ? moon.highWaterOf(day) : refuse(BAD);
    }

    public int bone(int s, int n, int what) {
        Shelf row = shelfAt(s);
        if (row == null || !isIn(n, 1, MOST_TOGETHER) || !isIn(what, 0, 2)) {
            return refuse(BAD);
        }
        int refusal = row.refusalAsRow(n);
        if (refusal != FINE) {
            return refuse(refusal);
        }
        if (what == 0) {
            return row.monthCounts(n);
        }
        return what == 1 ? row.longestRun(n) : row.threesOfMonths(n);
    }

    // ---- STONES and CHANCE

    public int hits(int day, int n, int w) {
        if (!areDays(day, n) || !isIn(w, 0, WIDEST)) {
            return refuse(BAD);
        }
        places.gather(moon, day, n);
        return stonesThatHit(w);
    }

    public int chance(int day, int n, int w) {
        if (!areDays(day, n) || !isIn(w, 0, WIDEST)) {
            return refuse(BAD);
        }
        places.gather(moon, day, n);
        return places.degreesThatHit(w);
    }

    public int meets(int stone, int day, int w) {
        if (!isStone(stone) || !isDay(day) || !isIn(w, 0, WIDEST)) {
            return refuse(BAD);
        }
        int degree = now.stones.at(stone);
        return moon.pick(day, MOST_DAYS, 0, new Question(BETWEEN, degree - w, degree + w, 0));
    }

    public int place(int day, int n, int w) {
        if (!isDay(day) || !isIn(n, 1, MOST_TOGETHER) || !isIn(w, 0, WIDEST)) {
            return refuse(BAD);
        }
        places.gather(moon, day, n);
        return places.fullest(w);
    }

    public int meant(int day, int n, int w) {
        if (!areDays(day, n) || !isIn(w, 0, WIDEST)) {
            return refuseFarBelow(BAD);
        }
        int stones = now.stones.count();
        if (stones < 1) {
            return refuseFarBelow(STUCK);
        }
        places.gather(moon, day, n);
        int hit = Integer.bitCount(stonesThatHit(w));
        return hit * 1000 / stones - places.degreesThatHit(w) * 1000 / DEGREES;
    }

    public int told(int day, int v) {
        if (!isDay(day) || !isIn(v, 0, MONTH - 1)) {
            return refuse(BAD);
        }
        int off = Math.floorMod(v - 100 * day, MONTH);
        now.off = off;
        return off;
    }

    // ---- IN TRUTH

    public int goes() {
        if (now.today >= LAST_DAY) {
            return refuse(STUCK);
        }
        return letEveningPass() ? 1 : 0;
    }

    public int looks(int n) {
        if (!isIn(n, 1, MOST_TOGETHER)) {
            return refuse(BAD);
        }
        for (int i = 0; i < n && now.today < LAST_DAY; i++) {
            letEveningPass();
        }
        return now.looks;
    }

    public int seed(int v) {
        int before = now.seed;
        now.seed = v;
        return before;
    }

    public int image() {
        kept.become(now);
        isKept = true;
        return 1;
    }

    public int back() {
        if (!isKept) {
            return refuse(STUCK);
        }
        now.become(kept);
        return 1;
    }

    public int status(int what) {
        switch (what) {
            case 0:
                return now.hill.count();
            case 1:
                return now.stones.count();
            case 2:
                return now.clouds.count();
            case 3:
            case 4:
            case 5:
            case 6:
                return now.askedOf(what - 3);
            case 7:
                return now.today;
            case 8:
                return now.looks;
            case 9:
                return tape.size();
            case 10:
                return now.seed;
            case 11:
                return shelvesInUse();
            default:
                return refusalsAt(what - 12);
        }
    }

    // ---- what may be, and refusals

    private static boolean isIn(int v, int least, int most) {
        return v >= least && v <= most;
    }

    private static boolean isDay(int day) {
        return isIn(day, 0, LAST_DAY);
    }

    private static boolean areDays(int day, int n) {
        return isDay(day) && isIn(n, 1, MOST_DAYS);
    }

    private static boolean areMinutes(int f, int t) {
        return isIn(f, 0, LAST_MINUTE) && isIn(t, f, LAST_MINUTE);
    }

    private static boolean isKind(int kind) {
        return isIn(kind, EVENING, WALK);
    }

    private static boolean isUnder(int kind, int wanted) {
        return wanted == EVENING || kind == wanted || wanted == FULL && (kind == FLAT || kind == WALK);
    }

    private boolean isStone(int stone) {
        return isIn(stone, 0, now.stones.count() - 1);
    }

    private Shelf shelfAt(int s) {
        return s >= 0 && s < shelves.length ? shelves[s] : null;
    }

    private int refuse(int number) {
        int i = BAD - number;
        if (i >= 0 && i < refusals.length) {
            refusals[i]++;
        }
        return number;
    }

    private int refuseFarBelow(int number) {
        return FAR_BELOW + refuse(number);
    }

    private int orStuck(int found) {
        return found == NONE ? refuse(STUCK) : found;
    }

    private int refusalsAt(int i) {
        return i >= 0 && i < refusals.length ? refusals[i] : NONE;
    }

    private int shelvesInUse() {
        int count = 0;
        for (int s = 0; s < shelves.length; s++) {
            Shelf shelf = shelves[s];
            if (shelf != null && !shelf.isBare()) {
                count++;
            }
        }
        return count;
    }

    private int toldByMost(Shelf row, int n) {
        int most = 0;
        int found = NONE;
        for (int i = 0; i < n; i++) {
            long day = row.at(i);
            if (moon.couldBegin(day)) {
                int times = row.timesOf(day, n);
                if (times > most) {
                    most = times;
                    found = (int) day;
                }
            }
        }
        return found;
    }

    private int stonesThatHit(int w) {
        int bits = 0;
        for (int stone = 0; stone < now.stones.count(); stone++) {
            if (places.near(now.stones.at(stone), w) > 0) {
                bits |= 1 << stone;
            }
        }
        return bits;
    }

    private boolean letEveningPass() {
        boolean isClear = now.draw(10) >= now.cloud;
        if (isClear && moon.shinesOf(now.today, 1080, LAST_MINUTE) > 0) {
            now.looks++;
        }
        now.today++;
        return isClear;
    }

    /** A few whole numbers, as many as there is room for. */
    private static final class Few {
        private final int[] items;
        private int count;

        Few(int room) {
            items = new int[Math.max(room, 0)];
        }

        int count() {
            return count;
        }

        boolean isFull() {
            return count >= items.length;
        }

        void add(int item) {
            if (count >= 0 && count < items.length) {
                items[count] = item;
                count++;
            }
        }

        int at(int i) {
            return i >= 0 && i < count && i < items.length ? items[i] : NONE;
        }

        boolean contains(int item) {
            for (int i = 0; i < count; i++) {
                if (at(i) == item) {
                    return true;
                }
            }
            return false;
        }

        void empty() {
            count = 0;
        }

        void become(Few other) {
            count = 0;
            for (int i = 0; i < other.count; i++) {
                add(other.at(i));
            }
        }
    }

    /** NOTCHES and the SKY LINE that they make. */
    private static final class Hill {
        private static final int ROOM = 8;
        private static final int MINUTES_UP = 5;
        private static final int MINUTES_ROUND = 4;

        private final Few from = new Few(ROOM);
        private final Few to = new Few(ROOM);
        private final Few height = new Few(ROOM);
        // Kept beside the NOTCHES: a thousand DAYS may ask for it at forty degrees each.
        private final int[] line = new int[DEGREES];

        int count() {
            return from.count();
        }

        boolean isFull() {
            return from.isFull();
        }

        void add(int first, int last, int high) {
            from.add(first);
            to.add(last);
            height.add(high);
            for (int degree = Math.max(first, 0); degree <= last && degree < line.length; degree++) {
                line[degree] = Math.max(line[degree], high);
            }
        }

        int partOf(int notch, int what) {
            if (what == 0) {
                return from.at(notch);
            }
            return what == 1 ? to.at(notch) : height.at(notch);
        }

        int lineAt(int degree) {
            return degree >= 0 && degree < line.length ? line[degree] : 0;
        }

        /** OVER, for one that comes up at this WAY. */
        int overFrom(int way) {
            // It is at one degree for four minutes: whether it clears the line
            // there needs one look, not four.
            int highest = HIGHEST_NOTCH * MINUTES_UP;
            for (int m = 0; m <= highest; m += MINUTES_ROUND) {
                int clears = Math.max(m, MINUTES_UP * lineAt(way + m / MINUTES_ROUND));
                if (clears < m + MINUTES_ROUND) {
                    return clears;
                }
            }
            return highest;
        }

        /** The first NOTCH that makes the SKY LINE at a degree. */
        int makerOf(int degree) {
            for (int i = 0; i < count(); i++) {
                if (isIn(degree, from.at(i), to.at(i)) && height.at(i) == lineAt(degree)) {
                    return i;
                }
            }
            return NONE;
        }

        void empty() {
            from.empty();
            to.empty();
            height.empty();
            Arrays.fill(line, 0);
        }

        void become(Hill other) {
            from.become(other.from);
            to.become(other.to);
            height.become(other.height);
            System.arraycopy(other.line, 0, line, 0, DEGREES);
        }
    }

    /** All that image() keeps. */
    private static final class State {
        int off;
        int node;
        int swing;
        int cloud = 3;
        final Hill hill = new Hill();
        final Few stones = new Few(6);
        final Few clouds = new Few(8);
        int today;
        int looks;
        int seed = 1;

        int askedOf(int what) {
            switch (what) {
                case OFF:
                    return off;
                case NODE:
                    return node;
                case SWING:
                    return swing;
                case CLOUD:
                    return cloud;
                default:
                    return NONE;
            }
        }

        void setAsked(int what, int v) {
            switch (what) {
                case OFF:
                    off = v;
                    break;
                case NODE:
                    node = v;
                    break;
                case SWING:
                    swing = v;
                    break;
                case CLOUD:
                    cloud = v;
                    break;
                default:
                    break;
            }
        }

        int draw(int below) {
            seed = seed * 1103515245 + 12345;
            return below < 1 ? 0 : (seed >>> 16) % below;
        }

        void become(State other) {
            off = other.off;
            node = other.node;
            swing = other.swing;
            cloud = other.cloud;
            hill.become(other.hill);
            stones.become(other.stones);
            clouds.become(other.clouds);
            today = other.today;
            looks = other.looks;
            seed = other.seed;
        }
    }

    /** What may be asked of a DAY: whether it is of a KIND, or something else that it fits or not. */
    private static final class Question {
        final int about;
        final int a;
        final int b;
        final int c;
        final Shelf picture;

        private Question(int about, int a, int b, int c, Shelf picture) {
            this.about = about;
            this.a = a;
            this.b = b;
            this.c = c;
            this.picture = picture;
        }

        Question(int about) {
            this(about, 0, 0, 0, null);
        }

        Question(int about, int a, int b, int c) {
            this(about, a, b, c, null);
        }

        Question(Shelf picture) {
            this(PICTURED, 0, 0, 0, picture);
        }
    }

    /** The told sums, as it all stands now. */
    private static final class Moon {
        private static final int UP_FOR = 600;

        private final State now;

        Moon(State now) {
            this.now = now;
        }

        static int lastOf(int day, int n) {
            return Math.min(day + n - 1, LAST_DAY);
        }

        int ageOf(int day) {
            return (100 * day + now.off) % MONTH;
        }

        int litOf(int day) {
            int age = ageOf(day);
            return age <= HALF_MONTH ? 100 * age / 1476 : 100 * (MONTH - age) / 1477;
        }

        int outOf(int day) {
            int s = (now.swing + day) % 6793;
            return s <= 3396 ? 18 + s * 10 / 3396 : 18 + (6793 - s) * 10 / 3397;
        }

        int slantOf(int day) {
            int out = outOf(day);
            int t = (100 * day + now.node) % 2732;
            if (t <= 683) {
                return out * t / 683;
            }
            return t <= 2049 ? out * (1366 - t) / 683 : out * (t - 2732) / 683;
        }

        // SLANT is dear, and RISE and WAY both hang on it: those named By take what is known.

        private static int riseBy(int age, int slant) {
            return Math.floorMod(360 + age * MINUTES / MONTH - 3 * slant, MINUTES);
        }

        private static int wayBy(int slant) {
            return 90 - 2 * slant;
        }

        int riseOf(int day) {
            return riseBy(ageOf(day), slantOf(day));
        }

        int wayOf(int day) {
            return wayBy(slantOf(day));
        }

        int overOf(int day) {
            return now.hill.overFrom(wayOf(day));
        }

        int upOf(int day) {
            int slant = slantOf(day);
            return (riseBy(ageOf(day), slant) + now.hill.overFrom(wayBy(slant))) % MINUTES;
        }

        int laterOf(int day) {
            return day >= LAST_DAY ? 0 : Math.floorMod(upOf(day + 1) - upOf(day), MINUTES);
        }

        /** The degree at UP. */
        int degreeOf(int day) {
            int way = wayOf(day);
            return way + now.hill.overFrom(way) / Hill.MINUTES_ROUND;
        }

        int behindOf(int day) {
            int way = wayOf(day);
            int over = now.hill.overFrom(way);
            return over == 0 ? NONE : now.hill.makerOf(way + (over - 1) / Hill.MINUTES_ROUND);
        }

        private static int shinesFrom(int up, int f, int t) {
            int down = up + UP_FOR - 1;
            // What goes on beyond midnight counts at this DAY's beginning.
            int tonight = Math.min(t, down) - Math.max(f, up) + 1;
            int beyond = Math.min(t, down - MINUTES) - f + 1;
            return Math.max(tonight, 0) + Math.max(beyond, 0);
        }

        int shinesOf(int day, int f, int t) {
            return shinesFrom(upOf(day), f, t);
        }

        int lightOf(int day, int f, int t) {
            return shinesFrom(upOf(day), f, t) * litOf(day) / 100;
        }

        boolean isFull(int day) {
            return isIn(ageOf(day), 1427, 1526);
        }

        int saysOf(int day, int kind) {
            switch (kind) {
                case FULL:
                    return Math.abs(ageOf(day) - HALF_MONTH);
                case FLAT:
                    return laterOf(day);
                case FAR:
                    return FARTHEST_OUT - outOf(day);
                case NEW:
                    return ageOf(day);
                case WALK:
                    return shinesOf(day, 1320, LAST_MINUTE);
                default:
                    return day;
            }
        }

        boolean fits(Question q, int day) {
            switch (q.about) {
                case EVENING:
                    return true;
                case FULL:
                case WALK:
                    return isFull(day);
                case FLAT:
                    return isFull(day) && day < LAST_DAY && laterOf(day) <= 30;
                case FAR:
                    return outOf(day) == FARTHEST_OUT;
                case NEW:
                    return ageOf(day) < 100;
                case BETWEEN:
                    return isIn(degreeOf(day), q.a, q.b);
                case SHINING:
                    return shinesOf(day, q.a, q.b) >= q.c;
                case BEHIND:
                    return behindOf(day) == q.a;
                case ECLIPSED:
                    return isFull(day) && isAtNode(day);
                case VISIBLE:
                    return isIn(ageOf(day), 150 - q.a, HALF_MONTH) && !now.clouds.contains(day);
                case PICTURED:
                    return q.picture != null && isAsPictured(q.picture, day);
                default:
                    return false;
            }
        }

        /** How many of n DAYS fit (i NONE), or the i-th of them; NONE, if there is no such one. */
        int pick(int day, int n, int i, Question q) {
            int found = 0;
            int last = lastOf(day, n);
            for (int d = day; d <= last; d++) {
                if (fits(q, d)) {
                    if (found == i) {
                        return d;
                    }
                    found++;
                }
            }
            return i == NONE ? found : NONE;
        }

        int bestOf(int day, int n, int by) {
            int best = day;
            int most = meritOf(day, by);
            int last = lastOf(day, n);
            for (int d = day + 1; d <= last; d++) {
                int merit = meritOf(d, by);
                if (merit > most) {
                    most = merit;
                    best = d;
                }
            }
            return best;
        }

        int meritOf(int day, int by) {
            switch (by) {
                case LEAST_LATER:
                    return -laterOf(day);
                case GREATEST_SLANT:
                    return Math.abs(slantOf(day));
                case LEAST_OVER:
                    return -overOf(day);
                case GREATEST_LIGHT:
                    return lightOf(day, 1200, LAST_MINUTE);
                default:
                    return 0;
            }
        }

        int newDaysTill(int day) {
            // Each NEW DAY is the one on which the sum steps over a month's end:
            // what it has stepped over by now, less that before DAY 0.
            int ends = Math.floorDiv(100 * day + now.off, MONTH);
            return ends - Math.floorDiv(now.off - 100, MONTH);
        }

        boolean isAtNode(int day) {
            int far = (100 * day + now.node) % 1366;
            return far <= 80 || far >= 1286;
        }

        /** How long at minute m it has been up on flat land; NONE: it isn't there. */
        private static int minutesUp(int rise, int m) {
            int gone = Math.floorMod(m - rise, MINUTES);
            return gone <= UP_FOR ? gone : NONE;
        }

        int heightAt(int day, int m) {
            int gone = minutesUp(riseOf(day), m);
            return gone == NONE ? NONE : gone / Hill.MINUTES_UP;
        }

        int degreeAt(int day, int m) {
            int slant = slantOf(day);
            int gone = minutesUp(riseBy(ageOf(day), slant), m);
            return gone == NONE ? NONE : wayBy(slant) + gone / Hill.MINUTES_ROUND;
        }

        boolean isAsPictured(Shelf row, int day) {
            // picture() has seen to it that element 6 is a minute.
            int m = (int) row.at(6);
            int slant = slantOf(day);
            int gone = minutesUp(riseBy(ageOf(day), slant), m);
            return gone != NONE
                && row.isSpan(0, litOf(day))
                && row.isSpan(2, wayBy(slant) + gone / Hill.MINUTES_ROUND)
                && row.isSpan(4, gone / Hill.MINUTES_UP);
        }

        boolean couldBegin(long day) {
            return day >= 0 && day <= LAST_DAY && isIn(ageOf((int) day), 150 - BEST_EYES, 400);
        }

        int highWaterOf(int day) {
            return (riseOf(day) + 180) % 720;
        }

        int tideAt(int day, int m) {
            int behind = Math.floorMod(m - highWaterOf(day), 720);
            int far = Math.min(behind, 720 - behind);
            return 50 + Math.abs(litOf(day) - 50) * (180 - far) / 180;
        }
    }

    /** How often the moon is at which degree at UP. */
    private static final class Places {
        // At UP it is at degree 180 at most: the SKY LINE ends at 179.
        private final int[] often = new int[DEGREES + 1];

        void gather(Moon moon, int day, int n) {
            Arrays.fill(often, 0);
            int last = Moon.lastOf(day, n);
            for (int d = day; d <= last; d++) {
                int degree = moon.degreeOf(d);
                if (degree >= 0 && degree < often.length) {
                    often[degree]++;
                }
            }
        }

        int near(int degree, int w) {
            int sum = 0;
            for (int d = Math.max(degree - w, 0); d <= degree + w && d < often.length; d++) {
                sum += often[d];
            }
            return sum;
        }

        int degreesThatHit(int w) {
            int count = 0;
            for (int degree = 0; degree < DEGREES; degree++) {
                if (near(degree, w) > 0) {
                    count++;
                }
            }
            return count;
        }

        int fullest(int w) {
            int best = 0;
            int most = 0;
            for (int degree = 0; degree < DEGREES; degree++) {
                int sum = near(degree, w);
                if (sum > most) {
                    most = sum;
                    best = degree;
                }
            }
            return best;
        }
    }

    /** THE TAPE, and the reading of a SKY from it. */
    private static final class Tape {
        private static final int ROOM = 250;
        private static final int MOST_DIGITS = 4;
        private static final int BLANK = 32;

        private static final int END = 0;
        private static final int WORD = 1;
        private static final int NUMBER = 2;
        private static final int SIGN = 3;
        private static final int NO_TOKEN = 4;

        private final int[] bytes = new int[ROOM];
        private int size;
        // The TOKEN looked at: what it is, its first byte's place, the place behind it.
        private int token;
        private int start;
        private int end;
        private int value;

        int size() {
            return size;
        }

        boolean isFull() {
            return size >= bytes.length;
        }

        void add(int letter) {
            if (size >= 0 && size < bytes.length) {
                bytes[size] = letter;
                size++;
            }
        }

        void empty() {
            size = 0;
        }

        /** Where the TOKEN stands at which reading stopped. */
        int fault() {
            return start;
        }

        /** How many STATEMENTS came to the draft; NONE: there is a FAULT. */
        int read(State draft) {
            end = 0;
            for (int statements = 1; statements <= ROOM; statements++) {
                step();
                if (!takeStatement(draft)) {
                    return NONE;
                }
                step();
                if (token == END) {
                    return statements;
                }
                if (token != SIGN) {
                    return NONE;
                }
            }
            return NONE;
        }

        private int byteAt(int i) {
            return i >= 0 && i < size && i < bytes.length ? bytes[i] : NONE;
        }

        private static int tokenOf(int letter) {
            if (letter == NONE) {
                return END;
            }
            if (letter >= 'a' && letter <= 'z') {
                return WORD;
            }
            if (letter >= '0' && letter <= '9') {
                return NUMBER;
            }
            return letter == ';' ? SIGN : NO_TOKEN;
        }

        private void step() {
            start = end;
            while (start < size && byteAt(start) == BLANK) {
                start++;
            }
            token = tokenOf(byteAt(start));
            end = Math.min(start + 1, size);
            boolean isLong = token == WORD || token == NUMBER;
            while (isLong && end < size && tokenOf(byteAt(end)) == token) {
                end++;
            }
        }

        private boolean isWord(String word) {
            if (token != WORD || end - start != word.length()) {
                return false;
            }
            for (int i = 0; i < word.length(); i++) {
                if (word.charAt(i) != byteAt(start + i)) {
                    return false;
                }
            }
            return true;
        }

        // What follows answers false while the TOKEN looked at is the one that can't stand there.

        private boolean takeStatement(State draft) {
            if (isWord("off")) {
                return takeAsked(draft, OFF);
            }
            if (isWord("node")) {
                return takeAsked(draft, NODE);
            }
            if (isWord("swing")) {
                return takeAsked(draft, SWING);
            }
            if (isWord("notch")) {
                return takeNotch(draft.hill);
            }
            if (isWord("stone")) {
                return takeStone(draft.stones);
            }
            return isWord("cloud") && takeCloud(draft.clouds);
        }

        private boolean takeNumber(int least, int most) {
            step();
            if (token != NUMBER || end - start > MOST_DIGITS) {
                return false;
            }
            value = 0;
            for (int i = start; i < end; i++) {
                value = 10 * value + byteAt(i) - '0';
            }
            return isIn(value, least, most);
        }

        private boolean takeAsked(State draft, int what) {
            if (!takeNumber(0, LARGEST_ASKED)) {
                return false;
            }
            draft.setAsked(what, value);
            return true;
        }

        private boolean takeNotch(Hill hill) {
            if (hill.isFull() || !takeNumber(0, LAST_DEGREE)) {
                return false;
            }
            int from = value;
            if (!takeNumber(from, LAST_DEGREE)) {
                return false;
            }
            int to = value;
            if (!takeNumber(0, HIGHEST_NOTCH)) {
                return false;
            }
            hill.add(from, to, value);
            return true;
        }

        private boolean takeStone(Few stones) {
            if (stones.isFull() || !takeNumber(0, LAST_DEGREE)) {
                return false;
            }
            stones.add(value);
            return true;
        }

        private boolean takeCloud(Few clouds) {
            if (clouds.isFull() || !takeNumber(0, LAST_DAY) || clouds.contains(value)) {
                return false;
            }
            clouds.add(value);
            return true;
        }
    }

    /** A SHELF: NOTHING, a ROW or an EVENING. */
    private static final class Shelf {
        private static final int ROOM = 40;
        private static final int KINDS_FROM = 10;

        // Made once and used for every ROW that the SHELF holds.
        private final long[] elements = new long[ROOM];
        private int content = NONE;
        private int size;
        private int day;

        int content() {
            return content;
        }

        boolean isBare() {
            return content == NONE;
        }

        boolean isEvening() {
            return content >= KINDS_FROM;
        }

        boolean isRow() {
            return content != NONE && content < KINDS_FROM;
        }

        boolean isRowOfOtherSort(Shelf other) {
            return isRow() && other.isRow() && content != other.content;
        }

        int kind() {
            return content - KINDS_FROM;
        }

        int day() {
            return day;
        }

        /** Why this is no ROW of so many elements at least; FINE, if it is one. */
        int refusalAsRow(int least) {
            if (isEvening()) {
                return OTHER;
            }
            if (isBare()) {
                return NOTHING;
            }
            return size < least ? BAD : FINE;
        }

        void putRow(int sort, int n) {
            content = sort;
            size = Math.min(n, elements.length);
            Arrays.fill(elements, 0L);
        }

        void putEvening(int kind, int onDay) {
            content = KINDS_FROM + kind;
            day = onDay;
        }

        boolean hasPlaces(int i, int n) {
            return n >= 0 && n <= size && i >= 0 && i <= size - n;
        }

        long at(int i) {
            return i >= 0 && i < size && i < elements.length ? elements[i] : 0L;
        }

        void put(int i, long v) {
            if (i >= 0 && i < size && i < elements.length) {
                elements[i] = cut(v);
            }
        }

        private long cut(long v) {
            switch (content) {
                case 0:
                    return (byte) v;
                case 1:
                    return (short) v;
                case 2:
                    return (int) v;
                case 4:
                    return v == 0 ? 0 : 1;
                default:
                    return v;
            }
        }

        void take(Shelf from, int i, int j, int n) {
            if (from.hasPlaces(i, n) && hasPlaces(j, n)) {
                System.arraycopy(from.elements, i, elements, j, n);
            }
        }

        int timesOf(long v, int n) {
            int times = 0;
            for (int i = 0; i < n; i++) {
                if (at(i) == v) {
                    times++;
                }
            }
            return times;
        }

        boolean isSpan(int i, int v) {
            return v >= at(i) && v <= at(i + 1);
        }

        private boolean isMonthCount(int i) {
            return at(i) == 29 || at(i) == 30;
        }

        int monthCounts(int n) {
            int count = 0;
            for (int i = 0; i < n; i++) {
                if (isMonthCount(i)) {
                    count++;
                }
            }
            return count;
        }

        int longestRun(int n) {
            int longest = 0;
            int run = 0;
            for (int i = 0; i < n; i++) {
                run = isMonthCount(i) ? run + 1 : 0;
                longest = Math.max(longest, run);
            }
            return longest;
        }

        int threesOfMonths(int n) {
            int count = 0;
            for (int i = 0; i + 2 < n; i++) {
                if (isThreeMonths(at(i), at(i + 1), at(i + 2))) {
                    count++;
                }
            }
            return count;
        }

        private static boolean isThreeMonths(long a, long b, long c) {
            long sum = a + b + c;
            // Three longs may wrap round to 88: their quarters can't, and tell such a sum.
            long quarters = (a >> 2) + (b >> 2) + (c >> 2);
            return (sum == 88 || sum == 89) && quarters >= 0 && quarters <= 22;
        }
    }
}
