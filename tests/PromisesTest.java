/** Each promise of the document by its number: ordinary inputs, edges, refusals in their order. */
public final class PromisesTest {
    private static final int NONE = -1;
    private static final int BAD = -2;
    private static final int OTHER = -3;
    private static final int NOTHING = -4;
    private static final int STUCK = -5;
    private static final int FULL = -6;
    private static final int MAX = Integer.MAX_VALUE;
    private static final int MIN = Integer.MIN_VALUE;

    private static int promise;
    private static int wrong;

    /** The object that the promise at hand is tested on. */
    private static MoonOverTheHill x;

    private static void fresh(int ofPromise) {
        promise = ofPromise;
        x = new MoonOverTheHill();
    }

    private static void due(long want, long got) {
        if (want != got) {
            wrong++;
            StackTraceElement at = new Throwable().getStackTrace()[1];
            System.out.println("promise " + promise + ", line " + at.getLineNumber()
                + ": answered " + got + ", due is " + want);
        }
    }

    /** Each of the answers is due to be this one. */
    private static void all(long want, long... got) {
        for (int i = 0; i < got.length; i++) {
            if (want != got[i]) {
                wrong++;
                StackTraceElement at = new Throwable().getStackTrace()[1];
                System.out.println("promise " + promise + ", line " + at.getLineNumber() + ", number " + i
                    + " there: answered " + got[i] + ", due is " + want);
            }
        }
    }

    /** How many REFUSALS of each number there are due to have been. */
    private static void refused(int... counts) {
        for (int i = 0; i < counts.length; i++) {
            if (counts[i] != x.status(12 + i)) {
                wrong++;
                StackTraceElement at = new Throwable().getStackTrace()[1];
                System.out.println("promise " + promise + ", line " + at.getLineNumber() + ": REFUSALS "
                    + (BAD - i) + " were " + x.status(12 + i) + ", due are " + counts[i]);
            }
        }
    }

    private static void rowOf(int s, int sort, long... elements) {
        due(1, x.row(s, sort, elements.length));
        for (int i = 0; i < elements.length; i++) {
            due(1, x.set(s, i, elements[i]));
        }
    }

    private static int skyOf(String text) {
        for (int i = 0; i < text.length(); i++) {
            x.feed(text.charAt(i));
        }
        return x.sky();
    }

    private static int[] state() {
        int[] told = new int[12];
        for (int what = 0; what < told.length; what++) {
            told[what] = x.status(what);
        }
        return told;
    }

    private static void asBefore(int[] before) {
        int[] now = state();
        for (int what = 0; what < now.length; what++) {
            if (now[what] != before[what]) {
                wrong++;
                StackTraceElement at = new Throwable().getStackTrace()[1];
                System.out.println("promise " + promise + ", line " + at.getLineNumber() + ": status(" + what
                    + ") became " + now[what] + ", it was " + before[what]);
            }
        }
    }

    public static void main(String[] args) {
        promises1To6();
        promises7To10();
        promises11To16();
        promise17();
        promises18To20();
        promises21To23();
        promises24To28();
        promises29To35();
        promises36To41();
        promises42To46();
        promises47To49();
        promises50To55();
        promises56To61();
        System.out.println(wrong == 0 ? "all answers are as due" : wrong + " answers are not as due");
        if (wrong != 0) {
            System.exit(1);
        }
    }

    private static void promises1To6() {
        fresh(1);
        due(-1, MoonOverTheHill.NONE);
        int[] atFirst = {0, 0, 0, 0, 0, 0, 3, 0, 0, 0, 1, 0, 0, 0, 0, 0, 0};
        for (int what = 0; what < atFirst.length; what++) {
            due(atFirst[what], x.status(what));
        }
        for (int s = 0; s < 8; s++) {
            due(NONE, x.holds(s));
        }
        due(0, x.wipe());
        due(0, x.clear(0) + x.clear(1) + x.clear(2));
        due(STUCK, x.back());

        fresh(2);
        due(1, x.row(0, 0, 0));
        due(1, x.row(7, 4, 40));
        due(0, x.holds(0));
        due(4, x.holds(7));
        due(1, x.set(7, 39, 1));
        due(BAD, x.set(7, 40, 1));
        due(1, x.row(7, 2, 40));
        due(0, x.element(7, 39));
        due(1, x.evening(1, 0, 0));
        due(1, x.row(1, 3, 2));
        due(3, x.holds(1));
        refused(1, 0, 0, 0, 0);
        all(BAD, x.row(-1, 0, 1), x.row(8, 0, 1), x.row(0, -1, 1), x.row(0, 5, 1), x.row(0, 0, -1), x.row(0, 0, 41),
            x.row(MAX, MAX, MAX), x.row(MIN, MIN, MIN));
        due(0, x.holds(0));
        refused(9, 0, 0, 0, 0);

        fresh(3);
        rowOf(0, 0, 127, 128, 200, 256, -129, 1L << 40);
        long[] bytes = {127, -128, -56, 0, 127, 0};
        rowOf(1, 1, 32767, 32768, 65536, -32769, 200, -1);
        long[] shorts = {32767, -32768, 0, 32767, 200, -1};
        rowOf(2, 2, 2147483647L, 2147483648L, 4294967297L, -2147483649L, 65536, -1);
        long[] ints = {2147483647L, -2147483648L, 1, 2147483647L, 65536, -1};
        rowOf(3, 3, Long.MAX_VALUE, Long.MIN_VALUE, 4294967297L, -1, 0, 7);
        long[] longs = {Long.MAX_VALUE, Long.MIN_VALUE, 4294967297L, -1, 0, 7};
        rowOf(4, 4, 0, 1, 2, -1, 256, 1L << 40);
        long[] booleans = {0, 1, 1, 1, 1, 1};
        for (int i = 0; i < 6; i++) {
            due(bytes[i], x.element(0, i));
            due(shorts[i], x.element(1, i));
            due(ints[i], x.element(2, i));
            due(longs[i], x.element(3, i));
            due(booleans[i], x.element(4, i));
        }
        x.evening(5, 0, 0);
        all(BAD, x.set(-1, 0, 1), x.set(8, 0, 1));
        due(OTHER, x.set(5, -1, 1));
        due(NOTHING, x.set(6, -1, 1));
        all(BAD, x.set(3, -1, 1), x.set(3, 6, 1), x.set(3, MAX, 1), x.set(3, MIN, 1));
        refused(6, 1, 1, 0, 0);

        fresh(4);
        rowOf(0, 2, 1, 2, 3, 4, 5);
        rowOf(1, 2, 0, 0, 0);
        rowOf(2, 1, 7, 8);
        x.evening(3, 1, 5);
        due(2, x.copy(0, 1, 3, 1, 2));
        due(0, x.element(1, 0));
        due(4, x.element(1, 1));
        due(5, x.element(1, 2));
        due(4, x.copy(0, 0, 0, 1, 4));
        due(1, x.element(0, 0));
        due(1, x.element(0, 1));
        due(4, x.element(0, 4));
        due(3, x.copy(0, 0, 2, 0, 3));
        due(2, x.element(0, 0));
        due(3, x.element(0, 1));
        due(4, x.element(0, 2));
        due(3, x.element(0, 3));
        due(0, x.copy(0, 1, 5, 3, 0));
        due(5, x.copy(0, 0, 0, 0, 5));
        refused(0, 0, 0, 0, 0);
        all(BAD, x.copy(-1, 3, 0, 0, 1), x.copy(3, 8, 0, 0, 1), x.copy(8, 7, 0, 0, 1));
        all(OTHER, x.copy(3, 7, 0, 0, 1), x.copy(7, 3, 0, 0, 1), x.copy(0, 3, 0, 0, 1), x.copy(0, 2, -1, 0, 1));
        all(NOTHING, x.copy(0, 7, -1, 0, 1), x.copy(7, 0, 0, 0, 1), x.copy(6, 7, 0, 0, 99));
        all(BAD, x.copy(0, 1, -1, 0, 1), x.copy(0, 1, 0, -1, 1), x.copy(0, 1, 0, 0, -1), x.copy(0, 1, 0, 0, 4),
            x.copy(1, 0, 0, 0, 4), x.copy(0, 1, 4, 0, 2), x.copy(0, 1, 0, 2, 2), x.copy(0, 1, MAX, 0, 1),
            x.copy(0, 1, 0, MAX, 1), x.copy(0, 1, 1, 1, MAX), x.copy(0, 1, 6, 0, 0));
        refused(14, 4, 3, 0, 0);
        due(0, x.element(1, 0));

        fresh(5);
        rowOf(2, 3, 11, 12);
        due(11, x.element(2, 0));
        due(12, x.element(2, 1));
        x.evening(4, 2, 30);
        all(0, x.element(2, 2), x.element(2, -1), x.element(2, MAX), x.element(4, 0), x.element(5, 0),
            x.element(-1, 0), x.element(8, 0));
        refused(0, 0, 0, 0, 0);

        fresh(6);
        for (int i = 0; i < 5; i++) {
            x.row(i, i, i);
            due(i, x.holds(i));
        }
        for (int kind = 0; kind < 6; kind++) {
            x.evening(kind, kind, 9);
            due(10 + kind, x.holds(kind));
        }
        all(NONE, x.holds(6), x.holds(7), x.holds(8), x.holds(-1), x.holds(MAX), x.holds(MIN));
        refused(0, 0, 0, 0, 0);
    }

    private static void promises7To10() {
        fresh(7);
        due(1, x.evening(0, 0, 0));
        due(1, x.evening(7, 5, 9999));
        due(15, x.holds(7));
        due(2, x.status(11));
        x.row(1, 0, 3);
        due(1, x.evening(1, 4, 7));
        due(14, x.holds(1));
        due(0, x.element(1, 0));
        all(BAD, x.evening(-1, 0, 0), x.evening(8, 0, 0), x.evening(0, -1, 0), x.evening(0, 6, 0),
            x.evening(0, 0, -1), x.evening(0, 0, 10000));
        due(10, x.holds(0));
        refused(6, 0, 0, 0, 0);

        fresh(8);
        // DAY 15: AGE 1500; OUT 18; UP 1100, so it is up from 1100 on, 120 minutes of 1320 to 1439.
        for (int kind = 0; kind < 6; kind++) {
            x.evening(kind, kind, 15);
        }
        due(15, x.says(0, 0));
        due(15, x.says(1, 0));
        due(24, x.says(1, 1));
        due(15, x.says(2, 0));
        due(24, x.says(2, 1));
        due(58, x.says(2, 2));
        due(10, x.says(3, 3));
        due(15, x.says(3, 0));
        due(1500, x.says(4, 4));
        due(15, x.says(4, 0));
        due(120, x.says(5, 5));
        due(24, x.says(5, 1));
        due(15, x.says(5, 0));
        x.evening(6, 1, 14);
        due(76, x.says(6, 1));
        x.evening(6, 5, 20);
        due(1383, x.moon(20, 6));
        due(1439 - 1383 + 1, x.says(6, 5));
        x.evening(6, 2, 9999);
        due(0, x.says(6, 2));
        x.evening(6, 2, 9998);
        due(36, x.says(6, 2));
        x.row(6, 0, 1);
        refused(0, 0, 0, 0, 0);
        all(BAD, x.says(-1, 0), x.says(8, 0), x.says(6, -1), x.says(6, 6), x.says(7, 6));
        all(OTHER, x.says(6, 0), x.says(0, 1), x.says(1, 2), x.says(1, 5), x.says(2, 3), x.says(2, 5), x.says(3, 1),
            x.says(4, 1), x.says(5, 2), x.says(4, 3), x.says(0, 4));
        all(NOTHING, x.says(7, 0), x.says(7, 5));
        refused(5, 11, 2, 0, 0);

        fresh(9);
        x.evening(0, 0, 3);
        x.evening(1, 1, 15);
        x.evening(2, 2, 15);
        x.evening(3, 3, 3396);
        x.evening(4, 4, 30);
        x.evening(5, 5, 15);
        due(1, x.isSo(0));
        due(1, x.isSo(1));
        due(0, x.isSo(2));
        due(1, x.isSo(3));
        due(1, x.isSo(4));
        due(1, x.isSo(5));
        x.evening(1, 1, 14);
        x.evening(3, 3, 3395);
        x.evening(4, 4, 31);
        x.evening(5, 5, 16);
        all(0, x.isSo(1), x.isSo(3), x.isSo(4), x.isSo(5));
        x.row(6, 0, 1);
        all(BAD, x.isSo(-1), x.isSo(8));
        due(OTHER, x.isSo(6));
        due(NOTHING, x.isSo(7));
        refused(2, 1, 1, 0, 0);

        fresh(10);
        due(0, x.ask(0, 9999));
        due(9999, x.ask(0, 5));
        due(0, x.ask(1, 9999));
        due(9999, x.ask(1, 6));
        due(0, x.ask(2, 9999));
        due(9999, x.ask(2, 7));
        due(3, x.ask(3, 9));
        due(9, x.ask(3, 0));
        due(0, x.ask(3, 4));
        due(5, x.status(3));
        due(6, x.status(4));
        due(7, x.status(5));
        due(4, x.status(6));
        all(BAD, x.ask(-1, 0), x.ask(4, 0), x.ask(0, -1), x.ask(0, 10000), x.ask(1, -1), x.ask(1, 10000),
            x.ask(2, -1), x.ask(2, 10000), x.ask(3, -1), x.ask(3, 10));
        due(5, x.status(3));
        due(4, x.status(6));
        refused(10, 0, 0, 0, 0);
    }

    private static void promises11To16() {
        fresh(11);
        due(0, x.notch(0, 179, 0));
        due(1, x.notch(5, 5, 30));
        all(BAD, x.notch(-1, 5, 1), x.notch(180, 180, 1), x.notch(0, 180, 1), x.notch(6, 5, 1), x.notch(5, 6, -1),
            x.notch(5, 6, 31));
        for (int i = 2; i < 8; i++) {
            due(i, x.notch(i, i + 1, 1));
        }
        due(FULL, x.notch(0, 1, 1));
        due(BAD, x.notch(0, 1, 31));
        due(8, x.status(0));
        due(30, x.line(5));
        refused(7, 0, 0, 0, 1);

        fresh(12);
        due(0, x.stone(0));
        due(1, x.stone(179));
        due(2, x.stone(179));
        all(BAD, x.stone(-1), x.stone(180));
        due(3, x.stone(1));
        due(4, x.stone(2));
        due(5, x.stone(3));
        due(FULL, x.stone(4));
        due(BAD, x.stone(180));
        due(6, x.status(1));
        refused(3, 0, 0, 0, 1);

        fresh(13);
        due(1, x.cloud(0));
        due(2, x.cloud(9999));
        all(BAD, x.cloud(-1), x.cloud(10000));
        all(STUCK, x.cloud(0), x.cloud(9999));
        for (int i = 3; i <= 8; i++) {
            due(i, x.cloud(i));
        }
        due(STUCK, x.cloud(8));
        due(FULL, x.cloud(9));
        due(BAD, x.cloud(10000));
        due(8, x.status(2));
        refused(3, 0, 0, 3, 1);

        fresh(14);
        x.notch(80, 90, 7);
        x.notch(80, 90, 8);
        x.stone(4);
        x.cloud(5);
        x.cloud(6);
        x.cloud(7);
        all(BAD, x.clear(-1), x.clear(3));
        due(2, x.clear(0));
        due(0, x.status(0));
        due(0, x.line(85));
        due(1, x.status(1));
        due(3, x.status(2));
        due(1, x.clear(1));
        due(0, x.status(1));
        due(3, x.clear(2));
        due(0, x.status(2));
        all(0, x.clear(0), x.clear(1), x.clear(2));
        due(0, x.notch(80, 90, 3));
        due(3, x.line(85));
        due(0, x.stone(9));
        due(1, x.cloud(5));
        refused(2, 0, 0, 0, 0);

        fresh(15);
        all(BAD, x.feed(-1), x.feed(256));
        due(1, x.feed(0));
        due(2, x.feed(255));
        due(BAD, x.feed(MAX));
        for (int i = 3; i <= 250; i++) {
            due(i, x.feed(97));
        }
        due(FULL, x.feed(97));
        due(BAD, x.feed(256));
        due(250, x.status(9));
        refused(4, 0, 0, 0, 1);

        promise = 16;
        due(250, x.wipe());
        due(0, x.status(9));
        due(0, x.wipe());
        due(1, x.feed(97));
        due(1, x.wipe());
        refused(4, 0, 0, 0, 1);
    }

    private static void promise17() {
        fresh(17);
        due(1, skyOf("off 1400"));
        due(0, x.status(9));
        due(1400, x.status(3));
        due(6, skyOf("  node 600; swing 3000 ;notch 60 99 9;notch90 120 14;stone 70;  cloud 2  "));
        due(600, x.status(4));
        due(3000, x.status(5));
        due(90, x.notchOf(1, 0));
        due(120, x.notchOf(1, 1));
        due(14, x.notchOf(1, 2));
        due(70, x.stoneOf(0));
        due(1, x.status(2));
        due(STUCK, x.cloud(2));
        due(3, x.status(6));
        due(2, skyOf("off 0012;off7"));
        due(7, x.status(3));
        due(3, skyOf("off 9999;node 9999;swing 9999"));
        due(3, skyOf("off 0;node 0;swing 0"));
        due(1, skyOf("cloud 9999"));
        due(1, skyOf("cloud 0"));
        due(2, skyOf("notch 0 0 0;notch 179 179 30"));
        due(2, skyOf("stone 0;stone 179"));
        refused(0, 0, 0, 1, 0);
        // STONES and NOTCHES may be alike, as those of stone() and notch() may.
        due(4, x.clear(0));
        due(3, x.clear(1));
        due(4, skyOf("stone 5;stone 5;notch 1 2 3;notch 1 2 3"));
        due(2, x.status(0));
        due(2, x.status(1));
        due(5, x.stoneOf(1));
        faults();
        skiesWithoutRoom();
        // The longest SKY: 250 bytes.
        fresh(17);
        StringBuilder longest = new StringBuilder("off 1");
        while (longest.length() < 250) {
            longest.append(";off1");
        }
        longest.setLength(250);
        due(49, skyOf(longest.substring(0, 6 + 48 * 5 - 1)));
        refused(0, 0, 0, 0, 0);
        fresh(17);
        longest.setLength(0);
        while (longest.length() < 249) {
            longest.append(' ');
        }
        due(-20 - 249, skyOf(longest + "!"));
        due(-20 - 250, skyOf(longest + " "));
        due(2, x.status(12));
    }

    private static void faults() {
        String[] texts = {
            "", "   ", "off", "off ", "off 5;", "off 5 ; ", "off 5 off", "off 5 6", ";off 5", "off 5;;off 6",
            "Off 5", "off -5", "off 12345", "off 00012", "offx 5", "of 5", "5", "off x", "off 5!", "off;5",
            "notch 180 180 1", "notch 1 180 1", "notch 9 8 1", "notch 9 9 31", "notch 9 9", "notch 9", "notch",
            "notch 1 2 3 4", "notch 1;2 3", "stone 180", "stone", "stone 1 stone 2", "cloud 10000", "cloud",
            "cloud 2", "cloud 5;cloud 5", "clouds 5", "offa 5", "offz 5", "xff 5", "off\t5", "off 5\n", "stone 5, stone 6", "swing 1a",
            "off 7;stone 5;cloud 3;notch 1 2 3;node 9;swing x", "\u0000", "off 5\u00ff", "off5off6", "no de 5"
        };
        int[] places = {
            0, 3, 3, 4, 6, 8, 6, 6, 0, 6,
            0, 4, 4, 4, 0, 0, 0, 4, 5, 3,
            6, 8, 8, 10, 9, 7, 5,
            12, 7, 6, 5, 8, 6, 5,
            6, 14, 0, 0, 0, 0, 3, 5, 7, 7,
            47, 0, 5, 4, 0
        };
        for (int i = 0; i < texts.length; i++) {
            fresh(17);
            skyOf("off 7;node 600;swing 3000;notch 60 99 9;stone 70;cloud 2");
            int[] before = state();
            int got = skyOf(texts[i]);
            if (got != -20 - places[i]) {
                wrong++;
                System.out.println("promise 17: '" + texts[i] + "' answered " + got + ", due is " + (-20 - places[i]));
            }
            asBefore(before);
            refused(1, 0, 0, 0, 0);
        }
    }

    private static void skiesWithoutRoom() {
        fresh(17);
        due(6, skyOf("stone 1;stone 2;stone 3;stone 4;stone 5;stone 6"));
        due(-20, skyOf("stone 1"));
        due(-20 - 6, skyOf("off 1;stone 999"));
        due(-20 - 6, skyOf("off 1;stone"));
        due(6, x.clear(1));
        due(-20 - 48, skyOf("stone 1;stone 2;stone 3;stone 4;stone 5;stone 6;stone 7"));
        due(0, x.status(1));
        for (int i = 0; i < 7; i++) {
            x.notch(1, 2, 3);
        }
        due(-20 - 12, skyOf("notch 1 2 3;notch 1 2 3"));
        due(7, x.status(0));
        due(1, skyOf("notch 3 4 5"));
        due(-20, skyOf("notch 9 8 1"));
        for (int i = 0; i < 7; i++) {
            x.cloud(i);
        }
        due(-20 - 6, skyOf("cloud 0"));
        due(-20 - 8, skyOf("cloud 8;cloud 8"));
        due(1, skyOf("cloud 7"));
        due(-20, skyOf("cloud 7"));
        due(8, x.status(2));
        refused(9, 0, 0, 0, 0);
    }

    private static void promises18To20() {
        fresh(18);
        x.notch(1, 2, 3);
        x.notch(40, 50, 6);
        due(1, x.notchOf(0, 0));
        due(2, x.notchOf(0, 1));
        due(3, x.notchOf(0, 2));
        due(40, x.notchOf(1, 0));
        due(50, x.notchOf(1, 1));
        due(6, x.notchOf(1, 2));
        all(BAD, x.notchOf(-1, 0), x.notchOf(2, 0), x.notchOf(0, -1), x.notchOf(0, 3), x.notchOf(MAX, 0));
        refused(5, 0, 0, 0, 0);

        fresh(19);
        due(BAD, x.stoneOf(0));
        x.stone(0);
        x.stone(33);
        due(0, x.stoneOf(0));
        due(33, x.stoneOf(1));
        all(BAD, x.stoneOf(-1), x.stoneOf(2));
        refused(3, 0, 0, 0, 0);

        fresh(20);
        due(0, x.line(0));
        x.notch(10, 20, 5);
        x.notch(15, 30, 9);
        x.notch(18, 19, 2);
        x.notch(170, 179, 4);
        x.notch(0, 1, 6);
        due(6, x.line(0));
        due(6, x.line(1));
        due(0, x.line(2));
        due(0, x.line(9));
        due(5, x.line(10));
        due(5, x.line(14));
        due(9, x.line(15));
        due(9, x.line(18));
        due(9, x.line(30));
        due(0, x.line(31));
        due(4, x.line(179));
        all(0, x.line(180), x.line(999));
        all(BAD, x.line(-1), x.line(1000));
        refused(2, 0, 0, 0, 0);
    }

    private static void figures(int day, int... want) {
        for (int what = 0; what < want.length; what++) {
            if (x.moon(day, what) != want[what]) {
                wrong++;
                System.out.println("promise 21: moon(" + day + ", " + what + ") answered " + x.moon(day, what)
                    + ", due is " + want[what]);
            }
        }
    }

    private static void promises21To23() {
        fresh(21);
        figures(0, 0, 0, 18, 360, 90, 0, 360, 42, 90);
        figures(1, 100, 6, 18, 402, 86, 0, 402, 40, 86);
        figures(7, 700, 47, 18, 650, 56, 0, 650, 58, 56);
        figures(29, 2900, 3, 18, 322, 82, 0, 322, 39, 82);
        due(1230, x.moon(9999, 6));
        due(36, x.moon(9998, 7));
        // LIT about full and about new; cut, not rounded.
        int[] offs = {1475, 1476, 1477, 1490, 2952, 2953, 14, 15, 9999};
        int[] lits = {99, 100, 99, 99, 0, 0, 0, 1, 77};
        int[] ages = {1475, 1476, 1477, 1490, 2952, 0, 14, 15, 1140};
        for (int i = 0; i < offs.length; i++) {
            x.ask(0, offs[i]);
            due(ages[i], x.moon(0, 0));
            due(lits[i], x.moon(0, 1));
        }
        int[] swings = {3395, 3396, 3397, 3735, 3736, 6792, 6793, 340, 339, 7133, 7132, 9999};
        int[] outs = {27, 28, 27, 27, 26, 18, 18, 19, 18, 19, 18, 27};
        for (int i = 0; i < swings.length; i++) {
            x.ask(2, swings[i]);
            due(outs[i], x.moon(0, 2));
        }
        hillFigures();
        fresh(21);
        all(BAD, x.moon(-1, 0), x.moon(10000, 0), x.moon(0, -1), x.moon(0, 9), x.moon(9999, 7), x.moon(10000, 9));
        refused(6, 0, 0, 0, 0);

        fresh(22);
        // t at the bends of the wave, OUT 18.
        int[] nodes = {0, 37, 38, 682, 683, 684, 1365, 1366, 1367, 2048, 2049, 2050, 2731, 2732, 9999};
        int[] slants = {0, 0, 1, 17, 18, 17, 0, 0, 0, -17, -18, -17, 0, 0, -11};
        for (int i = 0; i < nodes.length; i++) {
            x.ask(1, nodes[i]);
            due(slants[i], x.slant(0));
        }
        x.ask(1, 683);
        x.ask(2, 3396);
        due(28, x.slant(0));
        due(34, x.moon(0, 4));
        x.ask(1, 2610);
        due(-5, x.slant(0));
        x.ask(1, 2611);
        due(-4, x.slant(0));
        x.ask(1, 2049);
        due(-28, x.slant(0));
        due(146, x.moon(0, 4));
        due(444, x.moon(0, 3));
        due(-1000002, x.slant(-1));
        due(-1000002, x.slant(10000));
        refused(2, 0, 0, 0, 0);

        promise23();
    }

    private static void hillFigures() {
        fresh(21);
        // DAY 0 comes up at WAY 90, at 360 on flat land.
        x.notch(90, 94, 4);
        figures(0, 0, 0, 18, 360, 90, 20, 380, 22, 95);
        // At 20 it would be 4 high, but it's at 95 then.
        x.notch(95, 95, 5);
        due(24, x.moon(0, 5));
        x.clear(0);
        x.notch(90, 91, 1);
        due(5, x.moon(0, 5));
        due(365, x.moon(0, 6));
        due(91, x.moon(0, 8));
        x.clear(0);
        x.notch(90, 90, 3);
        due(4, x.moon(0, 5));
        x.notch(91, 91, 2);
        due(8, x.moon(0, 5));
        x.clear(0);
        x.notch(0, 179, 30);
        figures(0, 0, 0, 18, 360, 90, 150, 510, 42, 127);
        x.ask(0, 2195);
        due(1430, x.moon(0, 3));
        due(140, x.moon(0, 6));
        // A NOTCH that it gets past before it is as high: WAY 146, the SKY LINE ends at 179.
        x.ask(1, 2049);
        x.ask(2, 3396);
        due(136, x.moon(0, 5));
        due(180, x.moon(0, 8));
    }

    private static void promise23() {
        fresh(23);
        due(NONE, x.behind(0));
        x.notch(90, 99, 0);
        due(NONE, x.behind(0));
        x.clear(0);
        x.notch(90, 90, 3);
        due(0, x.behind(0));
        x.notch(91, 91, 2);
        due(1, x.behind(0));
        x.clear(0);
        x.notch(90, 90, 1);
        x.notch(91, 91, 1);
        due(5, x.moon(0, 5));
        due(1, x.behind(0));
        x.clear(0);
        x.notch(90, 99, 1);
        x.notch(90, 99, 3);
        x.notch(90, 99, 3);
        due(1, x.behind(0));
        x.clear(0);
        x.notch(0, 50, 2);
        x.notch(0, 179, 2);
        x.notch(90, 90, 5);
        due(10, x.moon(0, 5));
        due(1, x.behind(0));
        refused(0, 0, 0, 0, 0);
        all(BAD, x.behind(-1), x.behind(10000));
        refused(2, 0, 0, 0, 0);
    }

    private static void promises24To28() {
        fresh(24);
        due(1, x.is(3, 0));
        int[] offs = {1426, 1427, 1526, 1527};
        int[] full = {0, 1, 1, 0};
        for (int i = 0; i < offs.length; i++) {
            x.ask(0, offs[i]);
            due(full[i], x.is(0, 1));
            due(full[i], x.is(0, 5));
            due(0, x.is(0, 4));
        }
        x.ask(0, 0);
        due(1, x.is(0, 4));
        x.ask(0, 99);
        due(1, x.is(0, 4));
        x.ask(0, 100);
        due(0, x.is(0, 4));
        due(0, x.is(3395, 3));
        due(1, x.is(3396, 3));
        due(0, x.is(3397, 3));
        flatEvenings();
        all(BAD, x.is(-1, 0), x.is(10000, 0), x.is(0, -1), x.is(0, 6));
        refused(4, 0, 0, 0, 0);

        fresh(25);
        // UP on DAY 0 is 360: it is up from 360 to 959.
        due(600, x.shines(0, 0, 1439));
        all(0, x.shines(0, 0, 359), x.shines(0, 960, 1439), x.shines(0, 0, 0));
        all(1, x.shines(0, 360, 360), x.shines(0, 959, 959), x.shines(0, 0, 360), x.shines(0, 959, 1439));
        due(100, x.shines(0, 400, 499));
        x.ask(0, 2195);
        // And here 1430, so it goes on to 589.
        due(600, x.shines(0, 0, 1439));
        due(590, x.shines(0, 0, 1429));
        due(10, x.shines(0, 590, 1439));
        all(1, x.shines(0, 589, 600), x.shines(0, 0, 0), x.shines(0, 1439, 1439), x.shines(0, 1400, 1430));
        x.notch(0, 179, 30);
        due(0, x.shines(0, 0, 139));
        due(600, x.shines(0, 140, 739));
        all(BAD, x.shines(-1, 0, 1), x.shines(10000, 0, 1), x.shines(0, -1, 1), x.shines(0, 1, 0),
            x.shines(0, 0, 1440), x.shines(0, 1440, 1440));
        refused(6, 0, 0, 0, 0);

        fresh(26);
        // DAY 1: LIT 6, UP 402.
        due(36, x.light(1, 0, 1439));
        due(0, x.light(1, 402, 417));
        due(1, x.light(1, 402, 418));
        due(0, x.light(0, 0, 1439));
        x.ask(0, 1476);
        due(600, x.light(0, 0, 1439));
        all(BAD, x.light(-1, 0, 1), x.light(10000, 0, 1), x.light(0, -1, 1), x.light(0, 1, 0), x.light(0, 0, 1440));
        refused(5, 0, 0, 0, 0);

        fresh(27);
        due(5, x.next(5, 0));
        due(15, x.next(0, 1));
        due(15, x.next(15, 1));
        due(44, x.next(16, 1));
        due(15, x.next(0, 5));
        due(0, x.next(0, 4));
        due(30, x.next(1, 4));
        due(NONE, x.next(0, 2));
        due(NONE, x.next(2396, 3));
        due(3396, x.next(2397, 3));
        due(NONE, x.next(3397, 3));
        due(NONE, x.next(9999, 1));
        due(9999, x.next(9999, 0));
        refused(0, 0, 0, 0, 0);
        all(BAD, x.next(-1, 0), x.next(10000, 0), x.next(0, -1), x.next(0, 6));
        refused(4, 0, 0, 0, 0);

        fresh(28);
        due(1, x.many(0, 1, 0));
        due(1000, x.many(0, 1000, 0));
        due(1, x.many(9999, 1000, 0));
        due(34, x.many(0, 1000, 1));
        due(34, x.many(0, 1000, 4));
        due(0, x.many(0, 15, 1));
        due(1, x.many(0, 16, 1));
        due(1, x.many(3000, 1000, 3));
        all(BAD, x.many(-1, 1, 0), x.many(10000, 1, 0), x.many(0, 0, 0), x.many(0, 1001, 0), x.many(0, 1, -1),
            x.many(0, 1, 6));
        refused(6, 0, 0, 0, 0);
    }

    private static void flatEvenings() {
        fresh(24);
        // A NOTCH that holds DAY 0 up, not DAY 1, makes LATER less: 30 is FLAT, 31 isn't.
        x.ask(0, 1479);
        due(42, x.moon(0, 7));
        due(0, x.is(0, 2));
        x.notch(90, 92, 5);
        due(30, x.moon(0, 7));
        due(1, x.is(0, 2));
        x.ask(0, 1476);
        due(31, x.moon(0, 7));
        due(0, x.is(0, 2));
        x.clear(0);
        x.notch(90, 94, 4);
        int[] offs = {1426, 1427, 1526, 1527};
        int[] flat = {0, 1, 1, 0};
        for (int i = 0; i < offs.length; i++) {
            x.ask(0, offs[i]);
            due(1, x.moon(0, 7) <= 30 ? 1 : 0);
            due(flat[i], x.is(0, 2));
        }
        x.clear(0);
        // DAY 9999 has none behind it.
        x.told(9999, 1476);
        due(1, x.is(9999, 1));
        due(0, x.is(9999, 2));
    }

    private static void promises29To35() {
        fresh(29);
        // WAY of DAYS 0 to 7: 90 86 80 76 70 64 60 56.
        due(8, x.between(0, 8, 0, 999, -1));
        due(3, x.between(0, 8, 60, 75, -1));
        due(4, x.between(0, 8, 60, 75, 0));
        due(6, x.between(0, 8, 60, 75, 2));
        due(STUCK, x.between(0, 8, 60, 75, 3));
        due(1, x.between(0, 8, 86, 86, 0));
        due(0, x.between(0, 8, 87, 89, -1));
        due(1, x.between(9999, 1000, 0, 999, -1));
        due(9999, x.between(9999, 1000, 0, 999, 0));
        due(STUCK, x.between(9999, 1000, 0, 999, 1));
        x.notch(90, 94, 4);
        due(1, x.between(0, 1, 95, 95, -1));
        refused(0, 0, 0, 2, 0);
        all(BAD, x.between(-1, 1, 0, 9, 0), x.between(10000, 1, 0, 9, 0), x.between(0, 0, 0, 9, 0),
            x.between(0, 1001, 0, 9, 0), x.between(0, 1, -1, 9, 0), x.between(0, 1, 9, 8, 0),
            x.between(0, 1, 0, 1000, 0), x.between(0, 1, 1000, 1000, 0), x.between(0, 1, 0, 9, -2));
        refused(9, 0, 0, 2, 0);

        fresh(30);
        // LATER of DAYS 0 to 7: 42 40 43 40 39 43 43 58.
        due(4, x.alike(0));
        due(4, x.alike(4));
        // DAY 20 is the eighth; DAY 21, with less, doesn't count.
        due(20, x.alike(13));
        due(13, x.alike(12));
        due(5, x.alike(5));
        due(9994, x.alike(9991));
        x.notch(0, 179, 30);
        due(4, x.alike(0));
        all(BAD, x.alike(-1), x.alike(9992), x.alike(10000), x.alike(MIN));
        refused(4, 0, 0, 0, 0);

        fresh(31);
        // SLANT of DAYS 0 to 7: 0 2 5 7 10 13 15 17; of both ends of the month -18 at most.
        due(0, x.farthest(0, 1));
        due(1, x.farthest(0, 2));
        due(6, x.farthest(0, 7));
        due(7, x.farthest(0, 14));
        due(20, x.farthest(14, 8));
        due(9999, x.farthest(9999, 1000));
        x.ask(1, 2049);
        due(0, x.farthest(0, 10));
        all(BAD, x.farthest(-1, 1), x.farthest(10000, 1), x.farthest(0, 0), x.farthest(0, 1001));
        refused(4, 0, 0, 0, 0);

        fresh(32);
        due(1, x.grows(0));
        due(1, x.grows(14));
        due(0, x.grows(15));
        due(0, x.grows(29));
        due(1, x.grows(30));
        x.ask(0, 1476);
        due(1, x.grows(0));
        x.ask(0, 1477);
        due(0, x.grows(0));
        all(BAD, x.grows(-1), x.grows(10000));
        refused(2, 0, 0, 0, 0);

        fresh(33);
        due(0, x.lights(0, 1, 0, 1439));
        due(36, x.lights(0, 2, 0, 1439));
        due(36 + 78, x.lights(0, 3, 0, 1439));
        int sum = 0;
        for (int d = 3; d < 43; d++) {
            sum += x.light(d, 1200, 1300);
        }
        due(sum, x.lights(3, 40, 1200, 1300));
        due(x.light(9999, 0, 1439), x.lights(9999, 40, 0, 1439));
        all(BAD, x.lights(-1, 1, 0, 1), x.lights(10000, 1, 0, 1), x.lights(0, 0, 0, 1), x.lights(0, 41, 0, 1),
            x.lights(0, 1, 1, 0), x.lights(0, 1, -1, 0), x.lights(0, 1, 0, 1440));
        refused(7, 0, 0, 0, 0);

        fresh(34);
        due(0, x.soonest(0, 9));
        x.notch(60, 100, 9);
        // DAY 0 is past it at 44, DAYS 1 to 6 are over it at 45, DAY 7 comes up beside it.
        due(0, x.soonest(0, 7));
        due(1, x.soonest(1, 6));
        due(7, x.soonest(0, 8));
        x.clear(0);
        x.notch(77, 99, 9);
        due(3, x.soonest(0, 9));
        due(9999, x.soonest(9999, 1000));
        all(BAD, x.soonest(-1, 1), x.soonest(10000, 1), x.soonest(0, 0), x.soonest(0, 1001));
        refused(4, 0, 0, 0, 0);

        fresh(35);
        due(15, x.brightest(0, 30));
        due(0, x.brightest(0, 1));
        // Up to DAY 4 it isn't up in minutes 1200 to 1439 (or not lit): the first.
        due(0, x.brightest(0, 3));
        due(9999, x.brightest(9999, 1000));
        // From 1199 or 1201 on, the other one would be the first.
        x.ask(0, 248);
        due(x.light(38, 1200, 1439), x.light(15, 1200, 1439));
        due(15, x.brightest(15, 24));
        x.ask(0, 250);
        due(x.light(15, 1200, 1439) + 1, x.light(38, 1200, 1439));
        due(38, x.brightest(15, 24));
        all(BAD, x.brightest(-1, 1), x.brightest(10000, 1), x.brightest(0, 0), x.brightest(0, 1001));
        refused(4, 0, 0, 0, 0);
    }

    private static void promises36To41() {
        fresh(36);
        // UP of DAYS 0 to 3: 360 402 442 485.
        due(4, x.walks(0, 4, 0, 1439, 600, -1));
        due(0, x.walks(0, 4, 0, 1439, 601, -1));
        due(0, x.walks(0, 4, 0, 1439, 1440, -1));
        due(4, x.walks(0, 4, 0, 1, 0, -1));
        due(2, x.walks(0, 4, 0, 450, 49, -1));
        due(3, x.walks(0, 4, 0, 450, 9, -1));
        due(2, x.walks(0, 4, 0, 450, 9, 2));
        due(STUCK, x.walks(0, 4, 0, 450, 9, 3));
        due(1, x.walks(9999, 1000, 0, 1439, 0, -1));
        refused(0, 0, 0, 1, 0);
        all(BAD, x.walks(-1, 1, 0, 1, 0, 0), x.walks(10000, 1, 0, 1, 0, 0), x.walks(0, 0, 0, 1, 0, 0),
            x.walks(0, 1001, 0, 1, 0, 0), x.walks(0, 1, 1, 0, 0, 0), x.walks(0, 1, -1, 0, 0, 0),
            x.walks(0, 1, 0, 1440, 0, 0), x.walks(0, 1, 0, 1, -1, 0), x.walks(0, 1, 0, 1, 1441, 0),
            x.walks(0, 1, 0, 1, 0, -2));
        refused(10, 0, 0, 1, 0);

        fresh(37);
        due(BAD, x.overs(0, 5, 0, -1));
        x.notch(70, 72, 9);
        x.notch(80, 90, 1);
        // WAY of DAYS 0 to 7: 90 86 80 76 70 64 60 56.
        due(3, x.overs(0, 8, 1, -1));
        due(0, x.overs(0, 8, 1, 0));
        due(2, x.overs(0, 8, 1, 2));
        due(STUCK, x.overs(0, 8, 1, 3));
        due(1, x.overs(0, 8, 0, -1));
        due(4, x.overs(0, 8, 0, 0));
        due(0, x.overs(9999, 1000, 0, -1));
        refused(1, 0, 0, 1, 0);
        all(BAD, x.overs(-1, 1, 0, 0), x.overs(10000, 1, 0, 0), x.overs(0, 0, 0, 0), x.overs(0, 1001, 0, 0),
            x.overs(0, 1, -1, 0), x.overs(0, 1, 2, 0), x.overs(0, 1, 0, -2));
        refused(8, 0, 0, 1, 0);

        fresh(38);
        due(39, x.lates(0, 30, 0));
        due(39, x.lates(0, 5, 0));
        due(40, x.lates(0, 4, 0));
        due(43, x.lates(0, 5, 1));
        due(42 + 40 + 43 + 40 + 39, x.lates(0, 5, 2));
        due(42, x.lates(0, 1, 0));
        due(42, x.lates(0, 1, 1));
        due(42, x.lates(0, 1, 2));
        due(36, x.lates(9998, 1000, 2));
        due(36, x.lates(9998, 1000, 0));
        due(36, x.lates(9998, 2, 1));
        x.notch(90, 94, 4);
        due(22, x.lates(0, 2, 0));
        x.clear(0);
        x.notch(86, 90, 30);
        // DAY 0 gets by at 91, DAY 1 at 91 too: 4 minutes and 20.
        due(58, x.lates(0, 1, 1));
        due(20, x.lates(1, 1, 2));
        due(STUCK, x.lates(9999, 1, 0));
        due(BAD, x.lates(9999, 1, 3));
        all(BAD, x.lates(-1, 1, 0), x.lates(10000, 1, 0), x.lates(0, 0, 0), x.lates(0, 1001, 0), x.lates(0, 1, -1),
            x.lates(0, 1, 3));
        refused(7, 0, 0, 1, 0);

        fresh(39);
        due(1, x.date(0));
        due(30, x.date(29));
        due(1, x.date(30));
        due(18, x.date(9999));
        x.ask(0, 99);
        due(1, x.date(0));
        due(2, x.date(1));
        x.ask(0, 100);
        due(STUCK, x.date(0));
        due(STUCK, x.date(28));
        due(1, x.date(29));
        all(BAD, x.date(-1), x.date(10000));
        refused(2, 0, 0, 2, 0);

        fresh(40);
        due(1, x.months(0));
        due(1, x.months(29));
        due(2, x.months(30));
        due(339, x.months(9999));
        int[] offs = {99, 100, 2952, 2953, 3052, 3053, 9999};
        int[] months = {1, 0, 0, 1, 1, 0, 0};
        for (int i = 0; i < offs.length; i++) {
            x.ask(0, offs[i]);
            due(months[i], x.months(0));
        }
        x.ask(0, 2952);
        due(1, x.months(1));
        all(BAD, x.months(-1), x.months(10000));
        refused(2, 0, 0, 0, 0);

        fresh(41);
        due(192, x.eclipse(0));
        due(192, x.eclipse(192));
        due(NONE, x.eclipse(9990));
        x.ask(0, 1476);
        int[] nodes = {0, 80, 81, 1285, 1286, 1365, 1366, 1446, 1447, 2652};
        int[] so = {1, 1, 0, 0, 1, 1, 1, 1, 0, 1};
        for (int i = 0; i < nodes.length; i++) {
            x.ask(1, nodes[i]);
            due(so[i], x.eclipse(0) == 0 ? 1 : 0);
        }
        refused(0, 0, 0, 0, 0);
        all(BAD, x.eclipse(-1), x.eclipse(10000));
        refused(2, 0, 0, 0, 0);
    }

    private static void promises42To46() {
        fresh(42);
        // DAY 0: RISE 360, WAY 90; the hill doesn't matter.
        x.notch(0, 179, 30);
        due(0, x.sees(0, 360, 0));
        due(90, x.sees(0, 360, 1));
        due(0, x.sees(0, 364, 0));
        due(1, x.sees(0, 365, 0));
        due(90, x.sees(0, 363, 1));
        due(91, x.sees(0, 364, 1));
        due(120, x.sees(0, 960, 0));
        due(240, x.sees(0, 960, 1));
        all(STUCK, x.sees(0, 961, 0), x.sees(0, 961, 1), x.sees(0, 359, 0), x.sees(0, 0, 1));
        x.ask(0, 2195);
        due(2, x.sees(0, 0, 0));
        due(92, x.sees(0, 0, 1));
        refused(0, 0, 0, 4, 0);
        all(BAD, x.sees(-1, 0, 0), x.sees(10000, 0, 0), x.sees(0, -1, 0), x.sees(0, 1440, 0), x.sees(0, 0, -1),
            x.sees(0, 0, 2));
        refused(6, 0, 0, 4, 0);

        promise43();

        fresh(44);
        due(2, x.seen(0, 0));
        due(1, x.seen(0, 50));
        due(31, x.seen(15, 50));
        x.ask(0, 150);
        due(0, x.seen(0, 0));
        x.ask(0, 149);
        due(1, x.seen(0, 0));
        due(0, x.seen(0, 1));
        x.ask(0, 1476);
        due(0, x.seen(0, 0));
        x.ask(0, 1477);
        due(16, x.seen(0, 50));
        x.ask(0, 150);
        x.cloud(0);
        x.cloud(2);
        due(1, x.seen(0, 0));
        due(3, x.seen(2, 0));
        x.told(9999, 5);
        due(NONE, x.seen(9999, 50));
        refused(0, 0, 0, 0, 0);
        all(BAD, x.seen(-1, 0), x.seen(10000, 0), x.seen(0, -1), x.seen(0, 51));
        refused(4, 0, 0, 0, 0);

        promises45And46();
    }

    private static void promise43() {
        fresh(43);
        // DAY 0 to 3: LIT 0 6 13 20, RISE 360 402 442 485, WAY 90 86 80 76.
        rowOf(0, 2, 0, 20, 0, 999, 0, 200, 500, 4);
        due(4, x.picture(0, 0, 0));
        due(0, x.picture(0, 0, 1));
        x.set(0, 0, 1);
        due(3, x.picture(0, 0, 0));
        due(1, x.picture(0, 0, 1));
        x.set(0, 1, 19);
        due(2, x.picture(0, 0, 0));
        // At 500 it is at 90 and 35, 86 and 24, 80 and 14, 76 and 3; 28, 19, 11, 3 high.
        rowOf(0, 2, 0, 100, 94, 110, 0, 200, 500, 4);
        due(2, x.picture(0, 0, 0));
        due(1, x.picture(0, 0, 1));
        rowOf(0, 2, 0, 100, 95, 109, 0, 200, 500, 4);
        due(0, x.picture(0, 0, 0));
        due(STUCK, x.picture(0, 0, 1));
        rowOf(0, 2, 0, 100, 0, 999, 11, 19, 500, 4);
        due(2, x.picture(0, 0, 0));
        rowOf(0, 2, 0, 100, 0, 999, 12, 18, 500, 4);
        due(0, x.picture(0, 0, 0));
        rowOf(0, 2, 0, 100, 0, 999, 0, 200, 960, 4);
        due(4, x.picture(0, 0, 0));
        x.set(0, 6, 961);
        due(3, x.picture(0, 0, 0));
        x.set(0, 6, 441);
        due(2, x.picture(0, 0, 0));
        x.set(0, 6, 500);
        due(3, x.picture(0, 3, 1));
        x.ask(0, 2195);
        // DAY 0 has been up for 10 minutes at minute 0.
        rowOf(0, 2, 0, 100, 92, 92, 2, 2, 0, 1);
        due(1, x.picture(0, 0, 0));
        x.ask(0, 0);
        rowOf(1, 3, -1L << 40, 1L << 40, 0, 1L << 33, -5, 200, 500, 1000, 99);
        due(0, x.picture(1, 9999, 0));
        x.set(1, 6, 1300);
        due(1, x.picture(1, 9999, 0));
        due(9999, x.picture(1, 9999, 1));
        refused(0, 0, 0, x.status(15), 0);
        x.evening(2, 0, 0);
        rowOf(4, 2, 0, 100, 0, 999, 0, 200, 500);
        rowOf(5, 2, 0, 100, 0, 999, 0, 200, 500, 0);
        int stuck = x.status(15);
        all(BAD, x.picture(-1, 0, 0), x.picture(8, 0, 0), x.picture(2, -1, 0), x.picture(2, 10000, 0),
            x.picture(3, 0, -1), x.picture(3, 0, 2));
        due(OTHER, x.picture(2, 0, 0));
        due(NOTHING, x.picture(3, 0, 0));
        all(BAD, x.picture(4, 0, 0), x.picture(5, 0, 0));
        x.set(5, 7, 1001);
        due(BAD, x.picture(5, 0, 1));
        x.set(5, 7, 1);
        x.set(5, 6, -1);
        due(BAD, x.picture(5, 0, 1));
        x.set(5, 6, 1440);
        due(BAD, x.picture(5, 0, 1));
        x.set(5, 6, 1439);
        due(STUCK, x.picture(5, 0, 1));
        // Numbers that an int can't hold are no minute and no count of DAYS.
        rowOf(6, 3, 0, 100, 0, 999, 0, 200, (1L << 32) + 500, 4);
        due(BAD, x.picture(6, 0, 0));
        x.set(6, 6, 500);
        x.set(6, 7, (1L << 32) + 4);
        due(BAD, x.picture(6, 0, 0));
        x.set(6, 7, 4);
        due(4, x.picture(6, 0, 0));
        refused(13, 1, 1, stuck + 1, 0);
    }

    private static void promises45And46() {
        fresh(45);
        // AGE of DAYS 1 to 4: 100 to 400; of DAY 31: 147.
        rowOf(0, 2, 5, 5, 5, 2, 3, 3, 1, 4, 31);
        due(3, x.court(0, 9));
        due(NONE, x.court(0, 3));
        due(2, x.court(0, 5));
        due(3, x.court(0, 6));
        rowOf(1, 2, 4, 1, 1, 4, 0, 0, 0);
        due(4, x.court(1, 7));
        due(1, x.court(1, 3));
        rowOf(2, 3, -1, -1, 10000, (1L << 32) + 1, (1L << 32) + 1, (1L << 32) + 1, 1);
        due(1, x.court(2, 7));
        due(NONE, x.court(2, 6));
        x.ask(0, 1);
        rowOf(3, 2, 4, 0, 3);
        due(NONE, x.court(3, 2));
        due(3, x.court(3, 3));
        x.cloud(3);
        due(3, x.court(3, 3));
        x.evening(4, 0, 3);
        x.row(5, 2, 40);
        due(NONE, x.court(5, 40));
        refused(0, 0, 0, 0, 0);
        all(BAD, x.court(-1, 1), x.court(8, 1), x.court(4, 0), x.court(4, 41), x.court(6, 41));
        due(OTHER, x.court(4, 1));
        due(NOTHING, x.court(6, 1));
        due(BAD, x.court(3, 4));
        refused(6, 1, 1, 0, 0);

        promise = 46;
        x.ask(0, 0);
        due(3, x.eager(0, 3));
        due(3, x.eager(0, 9));
        due(6, x.eager(2, 6));
        due(6, x.eager(2, 7));
        due(1, x.eager(3, 3));
        due(40, x.eager(5, 40));
        rowOf(7, 2, 0, 1, 4, 5);
        due(2, x.eager(7, 4));
        refused(6, 1, 1, 0, 0);
        all(BAD, x.eager(-1, 1), x.eager(8, 1), x.eager(4, 0), x.eager(4, 41), x.eager(6, 41));
        due(OTHER, x.eager(4, 1));
        due(NOTHING, x.eager(6, 1));
        due(BAD, x.eager(3, 4));
        refused(12, 2, 2, 0, 0);

        fresh(45);
        rowOf(0, 2, 0);
        x.told(0, 100);
        due(0, x.court(0, 1));
        due(0, x.eager(0, 1));
        // Told once each: the first in the ROW.
        rowOf(1, 2, 3, 0);
        due(3, x.court(1, 2));
        x.told(0, 99);
        due(NONE, x.court(0, 1));
        x.told(9999, 400);
        x.set(0, 0, 9999);
        due(9999, x.court(0, 1));
        due(0, x.eager(0, 1));
        x.told(9999, 401);
        due(NONE, x.court(0, 1));
        // The DAY ahead of DAY 0 would have AGE 200, but there is none.
        x.told(0, 300);
        x.set(0, 0, -1);
        due(1, x.eager(0, 1));
        refused(0, 0, 0, 0, 0);
    }

    private static void promises47To49() {
        fresh(47);
        // DAY 0: LIT 0, HIGH water at 540 and 1260.
        due(100, x.tide(0, 540));
        due(100, x.tide(0, 1260));
        due(0, x.tide(0, 180));
        due(0, x.tide(0, 900));
        due(50, x.tide(0, 360));
        due(50, x.tide(0, 720));
        due(75, x.tide(0, 630));
        due(99, x.tide(0, 541));
        due(50, x.tide(0, 0));
        due(50, x.tide(0, 1080));
        due(51, x.tide(0, 1084));
        due(50, x.tide(0, 1077));
        due(49, x.tide(0, 1076));
        // DAY 15: LIT 98, RISE 1100; DAY 7: LIT 47, 3 from half.
        due(98, x.tide(15, 560));
        due(2, x.tide(15, 200));
        due(53, x.tide(7, 110));
        due(47, x.tide(7, 470));
        all(BAD, x.tide(-1, 0), x.tide(10000, 0), x.tide(0, -1), x.tide(0, 1440));
        refused(4, 0, 0, 0, 0);

        fresh(48);
        due(540, x.high(0));
        due(110, x.high(7));
        due(560, x.high(15));
        x.notch(0, 179, 30);
        due(540, x.high(0));
        x.clear(0);
        x.ask(0, 369);
        due(539, x.moon(0, 3));
        due(719, x.high(0));
        x.ask(0, 370);
        due(540, x.moon(0, 3));
        due(0, x.high(0));
        all(BAD, x.high(-1), x.high(10000));
        refused(2, 0, 0, 0, 0);

        fresh(49);
        rowOf(0, 0, 29, 30, 29, 28, 30, 31, 29, 29, 30, 30, 27);
        due(8, x.bone(0, 11, 0));
        due(4, x.bone(0, 11, 1));
        due(3, x.bone(0, 3, 1));
        due(2, x.bone(0, 2, 1));
        // Sums of 3: 88 87 87 89 90 89 88 89 87.
        due(5, x.bone(0, 11, 2));
        due(1, x.bone(0, 3, 2));
        due(0, x.bone(0, 2, 2));
        due(1, x.bone(0, 1, 0));
        // Wrapping sums would be 88 at both ends.
        rowOf(1, 3, Long.MAX_VALUE, Long.MAX_VALUE, 90, 0, Long.MIN_VALUE, Long.MIN_VALUE, 88);
        due(0, x.bone(1, 7, 2));
        rowOf(1, 3, Long.MAX_VALUE, Long.MIN_VALUE, 89, Long.MAX_VALUE - 88, Long.MIN_VALUE + 89);
        due(1, x.bone(1, 3, 2));
        due(2, x.bone(1, 5, 2));
        rowOf(1, 3, (1L << 32) + 29, 30, (1L << 32) + 30);
        due(1, x.bone(1, 3, 0));
        rowOf(1, 3, -1, 44, 45, -2, 46);
        due(2, x.bone(1, 5, 2));
        rowOf(5, 4, 1, 1, 1);
        due(0, x.bone(5, 3, 0));
        due(0, x.bone(5, 3, 1));
        x.evening(2, 0, 0);
        refused(0, 0, 0, 0, 0);
        all(BAD, x.bone(-1, 1, 0), x.bone(8, 1, 0), x.bone(2, 0, 0), x.bone(2, 41, 0), x.bone(3, 1, -1),
            x.bone(3, 1, 3));
        due(OTHER, x.bone(2, 1, 0));
        due(NOTHING, x.bone(3, 1, 0));
        due(BAD, x.bone(0, 12, 0));
        refused(7, 1, 1, 0, 0);
    }

    private static void promises50To55() {
        fresh(50);
        // WAY of DAYS 0 to 7: 90 86 80 76 70 64 60 56.
        due(0, x.hits(0, 8, 20));
        x.stone(90);
        x.stone(55);
        x.stone(96);
        x.stone(100);
        x.stone(83);
        due(1, x.hits(0, 8, 0));
        due(1 + 2, x.hits(0, 8, 1));
        due(1 + 2 + 16, x.hits(0, 8, 3));
        due(1 + 2 + 4 + 16, x.hits(0, 8, 6));
        due(1 + 4 + 8 + 16, x.hits(0, 1, 20));
        due(1, x.hits(9999, 1000, 0));
        x.notch(90, 94, 4);
        due(0, x.hits(0, 1, 0));
        due(4, x.hits(0, 1, 1));
        all(BAD, x.hits(-1, 1, 0), x.hits(10000, 1, 0), x.hits(0, 0, 0), x.hits(0, 1001, 0), x.hits(0, 1, -1),
            x.hits(0, 1, 21));
        refused(6, 0, 0, 0, 0);

        fresh(51);
        due(1, x.chance(0, 1, 0));
        due(2, x.chance(0, 2, 0));
        due(3, x.chance(0, 1, 1));
        due(6, x.chance(0, 2, 1));
        due(9, x.chance(0, 2, 2));
        due(41, x.chance(0, 1, 20));
        x.ask(1, 2049);
        x.ask(2, 3396);
        x.notch(0, 179, 30);
        // It comes up at 180 here.
        due(0, x.chance(0, 1, 0));
        due(1, x.chance(0, 1, 1));
        due(20, x.chance(0, 1, 20));
        all(BAD, x.chance(-1, 1, 0), x.chance(10000, 1, 0), x.chance(0, 0, 0), x.chance(0, 1001, 0),
            x.chance(0, 1, -1), x.chance(0, 1, 21));
        refused(6, 0, 0, 0, 0);

        fresh(52);
        due(BAD, x.meets(0, 0, 0));
        x.stone(76);
        x.stone(179);
        x.stone(59);
        due(3, x.meets(0, 0, 0));
        due(2, x.meets(0, 0, 4));
        due(1, x.meets(0, 0, 10));
        due(6, x.meets(2, 0, 1));
        due(7, x.meets(2, 7, 3));
        due(NONE, x.meets(1, 0, 20));
        refused(1, 0, 0, 0, 0);
        all(BAD, x.meets(-1, 0, 0), x.meets(3, 0, 0), x.meets(0, -1, 0), x.meets(0, 10000, 0), x.meets(0, 0, -1),
            x.meets(0, 0, 21));
        refused(7, 0, 0, 0, 0);

        fresh(53);
        due(90, x.place(0, 1, 0));
        due(70, x.place(0, 1, 20));
        due(56, x.place(0, 8, 0));
        // Within 2: 58 to 60, the one that has two of them, and so 62; 58 is the least.
        due(58, x.place(0, 8, 2));
        due(59, x.place(0, 8, 5));
        due(90, x.place(9999, 40, 0));
        all(BAD, x.place(-1, 1, 0), x.place(10000, 1, 0), x.place(0, 0, 0), x.place(0, 41, 0), x.place(0, 1, -1),
            x.place(0, 1, 21));
        x.ask(1, 2049);
        x.ask(2, 3396);
        x.notch(0, 179, 30);
        due(0, x.place(0, 1, 0));
        due(179, x.place(0, 1, 1));
        refused(6, 0, 0, 0, 0);

        fresh(54);
        due(-1000005, x.meant(0, 1, 0));
        due(-1000002, x.meant(0, 0, 0));
        x.stone(90);
        due(1000 - 5, x.meant(0, 1, 0));
        due(1000 - 50, x.meant(0, 2, 2));
        x.stone(10);
        due(500 - 5, x.meant(0, 1, 0));
        x.stone(11);
        due(333 - 41 * 1000 / 180, x.meant(0, 1, 20));
        x.clear(1);
        x.stone(10);
        due(-16, x.meant(0, 1, 1));
        refused(1, 0, 0, 1, 0);
        all(-1000002, x.meant(-1, 1, 0), x.meant(10000, 1, 0), x.meant(0, 0, 0), x.meant(0, 1001, 0),
            x.meant(0, 1, -1), x.meant(0, 1, 21));
        refused(7, 0, 0, 1, 0);

        fresh(55);
        due(2253, x.told(7, 0));
        due(2253, x.status(3));
        due(1, x.is(7, 4));
        due(0, x.told(0, 0));
        due(2952, x.told(0, 2952));
        due(533, x.told(5000, 1476));
        due(100, x.moon(5000, 1));
        all(BAD, x.told(-1, 0), x.told(10000, 0), x.told(0, -1), x.told(0, 2953));
        due(533, x.status(3));
        refused(4, 0, 0, 0, 0);
    }

    private static void promises56To61() {
        fresh(56);
        // SEED 1 becomes 1103527590: its upper 16 bits are 16838, 8 modulo 10.
        x.ask(3, 9);
        due(0, x.goes());
        due(1103527590, x.status(10));
        due(1, x.status(7));
        x.seed(1);
        x.ask(3, 8);
        due(1, x.goes());
        due(2, x.status(7));
        due(0, x.status(8));
        // SEED 3 becomes -984409216: without its sign, its upper bits are 50515, 5 modulo 10.
        x.seed(3);
        x.ask(3, 5);
        due(1, x.goes());
        due(-984409216, x.status(10));
        x.seed(3);
        x.ask(3, 6);
        due(0, x.goes());
        // DAY 4 on is up till 1080 and later: only clear ones are LOOKS.
        x.ask(3, 0);
        due(4, x.status(7));
        due(1, x.goes());
        due(1, x.status(8));
        x.seed(1);
        x.ask(3, 9);
        due(0, x.goes());
        due(1, x.status(8));
        // Up till 1079, and then till 1080.
        x = new MoonOverTheHill();
        x.ask(3, 0);
        x.ask(0, 247);
        due(480, x.moon(0, 6));
        due(1, x.goes());
        due(0, x.status(8));
        x = new MoonOverTheHill();
        x.ask(3, 0);
        x.ask(0, 249);
        due(481, x.moon(0, 6));
        due(1, x.goes());
        due(1, x.status(8));
        refused(0, 0, 0, 0, 0);

        promises57And56AtTheEnd();

        fresh(58);
        due(1, x.seed(7));
        due(7, x.seed(MIN));
        due(MIN, x.seed(0));
        due(0, x.status(10));
        due(0, x.seed(MAX));
        due(MAX, x.status(10));
        refused(0, 0, 0, 0, 0);

        promises59And60();

        fresh(61);
        x.notch(1, 2, 3);
        x.stone(4);
        x.stone(5);
        x.cloud(6);
        x.cloud(7);
        x.cloud(8);
        x.ask(0, 11);
        x.ask(1, 12);
        x.ask(2, 13);
        x.ask(3, 0);
        x.looks(30);
        x.feed(1);
        x.feed(2);
        x.seed(99);
        x.row(0, 0, 0);
        x.evening(7, 0, 0);
        x.row(-1, 0, 0);
        x.set(7, 0, 0);
        x.set(1, 0, 0);
        x.cloud(6);
        x.back();
        int[] told = {1, 2, 3, 11, 12, 13, 0, 30, x.looks(1), 2, -1, 2, 1, 1, 1, 2, 0};
        told[7] = 31;
        told[10] = 99 * 1103515245 + 12345;
        for (int what = 0; what < told.length; what++) {
            due(told[what], x.status(what));
        }
        all(NONE, x.status(-1), x.status(17), x.status(MAX), x.status(MIN));
        x.row(0, 9, 0);
        due(2, x.status(12));
    }

    private static void promises57And56AtTheEnd() {
        fresh(57);
        all(BAD, x.looks(0), x.looks(41), x.looks(-1));
        due(0, x.status(7));
        x.ask(3, 0);
        // DAY 2 is up till 1041, DAY 3 till 1084.
        due(0, x.looks(3));
        due(3, x.status(7));
        due(1, x.looks(1));
        due(4, x.looks(3));
        for (int i = 0; i < 249; i++) {
            x.looks(40);
        }
        due(9967, x.status(7));
        int looks = x.looks(31);
        due(9998, x.status(7));
        int seed = x.status(10);
        due(looks + (x.shines(9998, 1080, 1439) > 0 ? 1 : 0), x.looks(40));
        due(9999, x.status(7));
        due(seed * 1103515245 + 12345, x.status(10));
        due(x.status(8), x.looks(40));
        due(9999, x.status(7));
        refused(3, 0, 0, 0, 0);
        promise = 56;
        seed = x.status(10);
        due(STUCK, x.goes());
        due(9999, x.status(7));
        due(seed, x.status(10));
        refused(3, 0, 0, 1, 0);
    }

    private static void promises59And60() {
        fresh(59);
        due(STUCK, x.back());
        x.notch(80, 100, 9);
        x.stone(5);
        x.cloud(6);
        x.ask(0, 1);
        x.ask(1, 2);
        x.ask(2, 3);
        x.ask(3, 4);
        x.looks(20);
        x.seed(5);
        x.feed(97);
        x.row(0, 2, 3);
        int[] before = state();
        due(1, x.image());
        asBefore(before);
        changeAll();
        promise = 60;
        due(1, x.back());
        due(3, x.wipe());
        due(2, x.status(11));
        x.feed(97);
        x.row(7, 0, 0);
        before[11] = 3;
        asBefore(before);
        due(80, x.notchOf(0, 0));
        due(100, x.notchOf(0, 1));
        due(9, x.notchOf(0, 2));
        due(9, x.line(80));
        due(0, x.line(50));
        due(5, x.stoneOf(0));
        due(STUCK, x.cloud(6));
        due(15, x.holds(1));
        // What is done behind back() leaves what was kept as it was.
        changeAll();
        due(1, x.back());
        due(1, x.status(0));
        due(9, x.line(90));
        due(5, x.stoneOf(0));
        due(1, x.status(2));
        x.ask(0, 77);
        due(1, x.image());
        x.ask(0, 78);
        due(1, x.back());
        due(77, x.status(3));
        refused(0, 0, 0, 2, 0);
    }

    private static void changeAll() {
        x.clear(0);
        x.notch(40, 60, 3);
        x.notch(80, 90, 30);
        x.clear(1);
        x.stone(50);
        x.stone(51);
        x.clear(2);
        x.cloud(60);
        x.cloud(61);
        x.ask(0, 10);
        x.ask(1, 20);
        x.ask(2, 30);
        x.ask(3, 0);
        x.looks(40);
        x.seed(50);
        x.feed(98);
        x.feed(99);
        x.evening(1, 5, 3);
    }
}
