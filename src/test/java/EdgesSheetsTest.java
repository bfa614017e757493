/** Edges of promises 30 to 36: spots and sheets. */
public final class EdgesSheetsTest {
    private static final int[] WIDTHS = {8, 16, 32};

    public static void main(String[] args) {
        hold();
        asKinds();
        asKindsUnder();
        sheet();
        sheetBits();
        sheetSizes();
        sheetAnew();
        sheetMissing();
        write();
        lowestBits();
        copy();
        copyOrder();
        copyRuns();
        copyWrapsAround();
        copyWithin();
        load();
        loadEnds();
        judge();
        judgePlaces();
        Check.end();
    }

    private static TwoWheel eightBoys() {
        return Check.pottery("boy;boy;boy;boy;boy;boy;boy;boy");
    }

    private static void hold() {
        Edges.range("30: spot", Edges::busy, (x, v) -> x.hold(v, 0), 0, 9);
        Edges.range("30: spot, nothing", Edges::busy, (x, v) -> x.hold(v, -1), 0, 9);
        Edges.range("30: one of four, or nothing", Edges::busy, (x, v) -> x.hold(0, v), -1, 3);
        Edges.range("30: one of eight, or nothing", Edges::full, (x, v) -> x.hold(0, v), -1, 7);
        Edges.range("30: nobody there, nothing", Edges::fresh, (x, v) -> x.hold(9, v), -1, -1);
        TwoWheel x = eightBoys();
        for (int spot = 0; spot < 10; spot++) {
            Check.due("30: spot " + spot, x.hold(spot, 7), 1);
            Check.due("40: spots that hold", x.count(7), spot + 1);
        }
        Check.due("30: nothing, in the last", x.hold(9, -1), 1);
        Check.due("30: nothing, once more", x.hold(9, -1), 1);
        Check.due("40: nine", x.count(7), 9);
        Check.due("30: the first", x.hold(0, 0), 1);
        Check.due("31: who it holds", x.as(0, 6), 0);
        Check.due("31: MISSING", x.as(9, 6), Check.MISSING);
    }

    private static void asKinds() {
        Edges.range("31: spot", EdgesSheetsTest::allSpots, (x, v) -> x.as(v, 0), 0, 9);
        Edges.asked("31: kind 0", Edges::full, x -> x.as(0, 0), 7);
        Edges.asked("31: kind 6", Edges::full, x -> x.as(0, 6), 7);
        Edges.beyond("31: kind -1", Edges::full, x -> x.as(0, -1));
        Edges.beyond("31: kind 7", Edges::full, x -> x.as(0, 7));
        Edges.beyond("31: kind least", Edges::full, x -> x.as(0, Integer.MIN_VALUE));
        Edges.beyond("31: kind most", Edges::full, x -> x.as(0, Integer.MAX_VALUE));
        Edges.beyond("31: kind -1, ahead of MISSING", Edges::fresh, x -> x.as(0, -1));
        Edges.beyond("31: kind 7, ahead of MISSING", Edges::fresh, x -> x.as(0, 7));
        Edges.refused("31: MISSING, ahead of KIND", Edges::full, x -> x.as(1, 5), Check.MISSING);
        Edges.refused("31: MISSING at first", Edges::fresh, x -> x.as(9, 0), Check.MISSING);
        Edges.refused("31: KIND", Edges::full, x -> x.as(0, 5), Check.KIND);
    }

    private static TwoWheel allSpots() {
        TwoWheel x = Edges.full();
        for (int spot = 0; spot < 10; spot++) {
            x.hold(spot, spot % 8);
        }
        return x;
    }

    private static TwoWheel holding(int kind) {
        TwoWheel x = new TwoWheel();
        x.potter(kind, 5);
        x.hold(3, 0);
        return x;
    }

    /** Of each kind, what it is: itself and all above it, nothing else. */
    private static void asKindsUnder() {
        int[] is = {1, 2 + 1, 4 + 1, 8 + 2 + 1, 16 + 8 + 2 + 1, 32 + 1, 64 + 4 + 1};
        for (int kind = 0; kind <= 6; kind++) {
            for (int asked = 0; asked <= 6; asked++) {
                int k = kind;
                int a = asked;
                String name = "31: one of kind " + k + " as " + a;
                if ((is[kind] >> asked & 1) == 1) {
                    Edges.asked(name, () -> holding(k), x -> x.as(3, a), 0);
                } else {
                    Edges.refused(name, () -> holding(k), x -> x.as(3, a), Check.KIND);
                }
            }
        }
        TwoWheel x = holding(Check.BOY);
        x.change(0, 0, Check.PARTNER);
        Check.due("31: as it is now", x.as(3, Check.FATHER), 0);
        Check.due("31: not as it was", x.as(3, Check.SON), Check.KIND);
    }

    private static void sheet() {
        for (int bits : new int[] {0, 8, 16, 32}) {
            Edges.range("32: s, bits " + bits, Edges::busy, (x, v) -> x.sheet(v, bits, 1), 0, 3);
            for (int n : new int[] {0, 1, 40}) {
                Check.due("32: bits " + bits + ", n " + n, Edges.busy().sheet(0, bits, n), bits == 0 ? 0 : n);
            }
            for (int n : new int[] {-1, -2, Integer.MIN_VALUE}) {
                Edges.refused("32: bits " + bits + ", n " + n, Edges::busy, x -> x.sheet(0, bits, n), Check.SIZE);
                Edges.refused("32: bits " + bits + ", n " + n, Edges::busy, x -> x.sheet(3, bits, n), Check.SIZE);
                Edges.beyond("32: no such sheet, ahead of SIZE", Edges::busy, x -> x.sheet(4, bits, n));
                Edges.beyond("32: no such sheet, ahead of SIZE", Edges::busy, x -> x.sheet(-1, bits, n));
            }
            for (int n : new int[] {41, 42, Integer.MAX_VALUE}) {
                Edges.beyond("32: bits " + bits + ", n " + n, Edges::busy, x -> x.sheet(0, bits, n));
                Edges.beyond("32: bits " + bits + ", n " + n, Edges::busy, x -> x.sheet(3, bits, n));
            }
        }
    }

    private static void sheetBits() {
        int[] others = {Integer.MIN_VALUE, -32, -16, -8, -1, 1, 4, 7, 9, 15, 17, 24, 31, 33, 64, 256, Integer.MAX_VALUE};
        for (int bits : others) {
            Edges.beyond("32: bits " + bits, Edges::busy, x -> x.sheet(0, bits, 1));
            Edges.beyond("32: bits " + bits + ", ahead of SIZE", Edges::busy, x -> x.sheet(0, bits, -1));
            Edges.beyond("32: bits " + bits + ", n 41", Edges::busy, x -> x.sheet(0, bits, 41));
        }
    }

    private static void sheetSizes() {
        for (int bits : WIDTHS) {
            for (int s = 0; s < 4; s++) {
                TwoWheel x = new TwoWheel();
                Check.due("32: none", x.sheet(s, bits, 0), 0);
                Check.due("32: none is not MISSING", x.judge(s), 0);
                Check.due("33: no number at all", x.write(s, 0, 1), Check.BEYOND);
                Check.due("32: one", x.sheet(s, bits, 1), 1);
                Check.due("33: the only one", x.write(s, 0, 1), 1);
                Check.due("33: none behind it", x.write(s, 1, 1), Check.BEYOND);
                Check.due("32: forty", x.sheet(s, bits, 40), 40);
                Check.due("33: the last", x.write(s, 39, 1), 1);
                Check.due("33: none behind it", x.write(s, 40, 1), Check.BEYOND);
            }
        }
    }

    /** Sheets full to the last number: what one is told does not come to the next one. */
    private static void sheetAnew() {
        TwoWheel x = eightBoys();
        for (int s = 0; s < 4; s++) {
            x.sheet(s, 8, 40);
        }
        for (int s = 0; s < 4; s++) {
            x.write(s, 0, 10 + s);
            x.write(s, 39, 20 + s);
        }
        for (int s = 0; s < 4; s++) {
            x.load(s);
            Check.due("33: the first of sheet " + s, x.of(0, 2), 10 + s);
            x.copy(s, 39, s, 0, 1);
            x.load(s);
            Check.due("33: the last of sheet " + s, x.of(0, 2), 20 + s);
        }
        Check.due("32: anew", x.sheet(1, 8, 40), 40);
        x.load(1);
        Check.due("32: all 0, the first, too", x.of(0, 2), 0);
        x.write(1, 0, 5);
        x.copy(1, 39, 1, 0, 1);
        x.load(1);
        Check.due("32: all 0, the last, too", x.of(0, 2), 0);
        x.load(2);
        Check.due("32: others stay", x.of(0, 2), 22);
        x.sheet(2, 8, 1);
        x.sheet(2, 8, 40);
        x.copy(2, 39, 2, 0, 1);
        x.load(2);
        Check.due("32: all 0 behind fewer, too", x.of(0, 2), 0);
    }

    private static void sheetMissing() {
        for (int s = 0; s < 4; s++) {
            TwoWheel x = Edges.busy();
            x.sheet(s, 16, 5);
            Check.due("32: bits 0", x.sheet(s, 0, 40), 0);
            Check.due("32: MISSING", x.write(s, 0, 1), Check.MISSING);
            Check.due("32: MISSING", x.load(s), Check.MISSING);
            Check.due("32: MISSING", x.judge(s), Check.MISSING);
            Check.due("32: MISSING", x.fits(s, 0, 1), Check.MISSING);
            Check.due("32: MISSING", x.kinds(s, 0), Check.MISSING);
            Check.due("32: MISSING once more", x.sheet(s, 0, 0), 0);
            Check.due("32: there again", x.sheet(s, 16, 5), 5);
            Check.due("32: all 0", x.load(s), 4);
            Check.due("32: all 0", x.of(3, 2), 0);
        }
    }

    private static void write() {
        Edges.range("33: s", EdgesSheetsTest::fourSheets, (x, v) -> x.write(v, 0, 5), 0, 3);
        Edges.range("33: i of four", Edges::busy, (x, v) -> x.write(0, v, 5), 0, 3);
        Edges.range("33: i of two", Edges::busy, (x, v) -> x.write(2, v, 5), 0, 1);
        Edges.range("33: i of forty", EdgesSheetsTest::fourSheets, (x, v) -> x.write(3, v, 5), 0, 39);
        Edges.beyond("33: i of none", () -> withSheet(8), x -> x.write(0, 0, 5));
        Edges.refused("33: MISSING", Edges::busy, x -> x.write(3, 0, 5), Check.MISSING);
        Edges.refused("33: MISSING, ahead of no such number", Edges::busy, x -> x.write(3, 40, 5), Check.MISSING);
        Edges.refused("33: MISSING, ahead of no such number", Edges::busy, x -> x.write(3, -1, 5), Check.MISSING);
        Edges.beyond("33: no such sheet, ahead of no such number", Edges::busy, x -> x.write(4, -1, 5));
    }

    private static TwoWheel fourSheets() {
        TwoWheel x = eightBoys();
        x.sheet(0, 8, 1);
        x.sheet(1, 16, 2);
        x.sheet(2, 32, 3);
        x.sheet(3, 8, 40);
        return x;
    }

    private static TwoWheel withSheet(int bits, int... numbers) {
        TwoWheel x = Check.pottery("boy;boy;boy");
        Check.sheet(x, 0, bits, numbers);
        return x;
    }

    /** What a number became: THROWN of the one who is there, asked by judge(). */
    private static void dueKept(int bits, int v, int want) {
        TwoWheel x = withSheet(bits, v);
        x.change(0, 4, want);
        Check.due("33: " + v + " in " + bits + " bits is " + want, x.judge(0), 0);
    }

    /** A number that is -1, which kinds() takes for any, or one that no HEAT is. */
    private static void dueAny(int bits, int v, boolean isAny) {
        Check.due("33: " + v + " in " + bits + " bits, -1", withSheet(bits, v).kinds(0, 0), isAny ? 127 : 0);
    }

    private static void lowestBits() {
        dueKept(8, 127, 127);
        dueKept(8, 256, 0);
        dueKept(8, 257, 1);
        dueKept(8, 256 + 127, 127);
        dueKept(8, -255, 1);
        dueKept(8, Integer.MIN_VALUE, 0);
        dueKept(16, 9999, 9999);
        dueKept(16, 128, 128);
        dueKept(16, 65536, 0);
        dueKept(16, 65537, 1);
        dueKept(16, -65535, 1);
        dueKept(16, Integer.MIN_VALUE, 0);
        dueKept(32, 9999, 9999);
        int[] ones = {255, 65535, Integer.MAX_VALUE};
        for (int i = 0; i < 3; i++) {
            dueAny(WIDTHS[i], -1, true);
            for (int j = 0; j < 3; j++) {
                dueAny(WIDTHS[i], ones[j], i <= j && WIDTHS[i] < 32);
            }
        }
        dueAny(8, 128, false);
        dueAny(16, 32768, false);
        dueAny(32, Integer.MIN_VALUE, false);
        TwoWheel x = withSheet(8, 128);
        x.change(0, 4, 128);
        Check.due("33: 128 in 8 bits is -128", x.judge(0), 1);
        x = withSheet(32, 65536);
        Check.due("33: 65536 in 32 bits isn't 0", x.judge(0), 1);
        x = withSheet(32, 256);
        Check.due("33: 256 in 32 bits isn't 0", x.judge(0), 1);
    }

    private static void copy() {
        Edges.range("34: s", EdgesSheetsTest::alike, (x, v) -> x.copy(v, 0, 0, 0, 1), 0, 3);
        Edges.range("34: t", EdgesSheetsTest::alike, (x, v) -> x.copy(0, 0, v, 0, 1), 0, 3);
        Edges.range("34: from, one of four", Edges::busy, (x, v) -> x.copy(0, v, 1, 0, 1), 0, 3);
        Edges.range("34: to, one of three", Edges::busy, (x, v) -> x.copy(0, 0, 1, v, 1), 0, 2);
        Edges.range("34: n, to one of three", Edges::busy, (x, v) -> x.copy(0, 0, 1, 0, v), 0, 3);
        Edges.range("34: n, from one of three", Edges::busy, (x, v) -> x.copy(1, 0, 0, 0, v), 0, 3);
        Edges.range("34: n, from the second on", Edges::busy, (x, v) -> x.copy(1, 1, 0, 0, v), 0, 2);
        Edges.range("34: n, to the third on", Edges::busy, (x, v) -> x.copy(0, 0, 1, 2, v), 0, 1);
        Edges.range("34: from, none", Edges::busy, (x, v) -> x.copy(0, v, 1, 0, 0), 0, 4);
        Edges.range("34: to, none", Edges::busy, (x, v) -> x.copy(0, 0, 1, v, 0), 0, 3);
    }

    private static TwoWheel alike() {
        TwoWheel x = eightBoys();
        for (int s = 0; s < 4; s++) {
            Check.sheet(x, s, 16, 10 + s, 20 + s);
        }
        return x;
    }

    private static void copyOrder() {
        Edges.refused("34: s is MISSING", Edges::busy, x -> x.copy(3, 0, 0, 0, 1), Check.MISSING);
        Edges.refused("34: t is MISSING", Edges::busy, x -> x.copy(0, 0, 3, 0, 1), Check.MISSING);
        Edges.refused("34: both are MISSING", Edges::busy, x -> x.copy(3, 0, 3, 0, 0), Check.MISSING);
        Edges.refused("34: KIND, 8 to 16 bits", Edges::busy, x -> x.copy(0, 0, 2, 0, 1), Check.KIND);
        Edges.refused("34: KIND, 16 to 8 bits", Edges::busy, x -> x.copy(2, 0, 0, 0, 1), Check.KIND);
        Edges.refused("34: KIND, 32 to 16 bits", EdgesSheetsTest::fourSheets, x -> x.copy(2, 0, 1, 0, 1), Check.KIND);
        Edges.refused("34: KIND, none", Edges::busy, x -> x.copy(0, 0, 2, 0, 0), Check.KIND);
        Edges.beyond("34: s, ahead of MISSING", Edges::busy, x -> x.copy(-1, 0, 3, 0, 1));
        Edges.beyond("34: s, ahead of MISSING", Edges::busy, x -> x.copy(4, 0, 3, 0, 1));
        Edges.beyond("34: t, ahead of MISSING", Edges::busy, x -> x.copy(3, 0, -1, 0, 1));
        Edges.beyond("34: t, ahead of MISSING", Edges::busy, x -> x.copy(3, 0, 4, 0, 1));
        Edges.refused("34: MISSING, ahead of KIND", Edges::busy, x -> x.copy(2, 0, 3, 0, 1), Check.MISSING);
        Edges.refused("34: MISSING, ahead of KIND", Edges::busy, x -> x.copy(3, 0, 2, 0, 1), Check.MISSING);
        for (int n : new int[] {-1, 41, Integer.MIN_VALUE, Integer.MAX_VALUE}) {
            Edges.refused("34: MISSING, ahead of n " + n, Edges::busy, x -> x.copy(0, 0, 3, 0, n), Check.MISSING);
            Edges.refused("34: KIND, ahead of n " + n, Edges::busy, x -> x.copy(0, 0, 2, 0, n), Check.KIND);
            Edges.refused("34: KIND, ahead of from " + n, Edges::busy, x -> x.copy(0, n, 2, 0, 0), Check.KIND);
            Edges.refused("34: KIND, ahead of to " + n, Edges::busy, x -> x.copy(0, 0, 2, n, 0), Check.KIND);
        }
    }

    private static void dueNumbers(String name, TwoWheel x, int s, int... want) {
        x.load(s);
        for (int p = 0; p < want.length; p++) {
            Check.due(name + ", number " + p, x.of(p, 2), want[p]);
        }
    }

    private static TwoWheel fiveAndThree() {
        TwoWheel x = eightBoys();
        Check.sheet(x, 0, 8, 1, 2, 3, 4, 5);
        Check.sheet(x, 1, 8, 11, 12, 13);
        return x;
    }

    private static void copyRuns() {
        TwoWheel x = fiveAndThree();
        Check.due("34: all", x.copy(1, 0, 0, 2, 3), 3);
        dueNumbers("34: to the end", x, 0, 1, 2, 11, 12, 13);
        x = fiveAndThree();
        Check.due("34: the last to the last", x.copy(0, 4, 1, 2, 1), 1);
        dueNumbers("34: the last to the last", x, 1, 11, 12, 5);
        x = fiveAndThree();
        Check.due("34: none", x.copy(0, 0, 1, 0, 0), 0);
        Check.due("34: none, from the end to the end", x.copy(0, 5, 1, 3, 0), 0);
        dueNumbers("34: none", x, 1, 11, 12, 13);
        x.sheet(2, 8, 0);
        Check.due("34: none of none", x.copy(2, 0, 2, 0, 0), 0);
        Check.due("34: none to none", x.copy(0, 5, 2, 0, 0), 0);
        Check.due("34: one to none", x.copy(0, 0, 2, 0, 1), Check.BEYOND);
        Check.due("34: one of none", x.copy(2, 0, 0, 0, 1), Check.BEYOND);
        Edges.beyond("34: one more than s has", EdgesSheetsTest::fiveAndThree, y -> y.copy(1, 0, 0, 0, 4));
        Edges.beyond("34: one more than t has", EdgesSheetsTest::fiveAndThree, y -> y.copy(0, 0, 1, 0, 4));
        Edges.beyond("34: behind the end of s", EdgesSheetsTest::fiveAndThree, y -> y.copy(1, 2, 0, 0, 2));
        Edges.beyond("34: behind the end of t", EdgesSheetsTest::fiveAndThree, y -> y.copy(0, 0, 1, 2, 2));
        x = eightBoys();
        x.sheet(0, 32, 40);
        x.sheet(3, 32, 40);
        x.write(0, 39, 77);
        Check.due("34: forty", x.copy(0, 0, 3, 0, 40), 40);
        Check.due("34: the fortieth", x.copy(3, 39, 3, 0, 1), 1);
        dueNumbers("34: the fortieth", x, 3, 77, 0);
        Check.due("34: forty-one", x.copy(0, 0, 3, 0, 41), Check.BEYOND);
    }

    /** What comes together to a small number again, or below 0. */
    private static void copyWrapsAround() {
        int most = Integer.MAX_VALUE;
        int least = Integer.MIN_VALUE;
        int[][] wraps = {{most, 0, 1}, {0, most, 1}, {1, 1, most}, {most, most, most}, {least, 0, 1}, {0, least, 1}, {0, 0, least},
            {least, least, least}, {2, 0, most}, {0, 2, most}, {most, 0, 2}, {least, 0, least}, {0, least, least}, {-1, 0, 2}, {0, -1, 2},
            {2, 2, -1}, {-1, -1, 0}, {-1, 0, 0}, {0, -1, 0}};
        for (int[] w : wraps) {
            String name = "34: from " + w[0] + " to " + w[1] + " n " + w[2];
            Edges.beyond(name, EdgesSheetsTest::fiveAndThree, x -> x.copy(0, w[0], 1, w[1], w[2]));
            Edges.beyond(name + ", within one", EdgesSheetsTest::fiveAndThree, x -> x.copy(0, w[0], 0, w[1], w[2]));
        }
    }

    /** As they all were, if it is one and the same sheet. */
    private static void copyWithin() {
        TwoWheel x = fiveAndThree();
        Check.due("34: one further", x.copy(0, 0, 0, 1, 4), 4);
        dueNumbers("34: one further", x, 0, 1, 1, 2, 3, 4);
        x = fiveAndThree();
        Check.due("34: one back", x.copy(0, 1, 0, 0, 4), 4);
        dueNumbers("34: one back", x, 0, 2, 3, 4, 5, 5);
        x = fiveAndThree();
        Check.due("34: two further", x.copy(0, 0, 0, 2, 3), 3);
        dueNumbers("34: two further", x, 0, 1, 2, 1, 2, 3);
        x = fiveAndThree();
        Check.due("34: to where they are", x.copy(0, 0, 0, 0, 5), 5);
        dueNumbers("34: to where they are", x, 0, 1, 2, 3, 4, 5);
        Edges.beyond("34: one too far", EdgesSheetsTest::fiveAndThree, y -> y.copy(0, 0, 0, 1, 5));
    }

    private static void load() {
        Edges.range("35: s", EdgesSheetsTest::alike, (x, v) -> x.load(v), 0, 3);
        Edges.refused("35: MISSING", Edges::busy, x -> x.load(3), Check.MISSING);
        Edges.refused("35: MISSING at first", Edges::fresh, x -> x.load(0), Check.MISSING);
        Edges.asked("35: no number", () -> withSheet(8), x -> x.load(0), 0);
        TwoWheel x = new TwoWheel();
        x.sheet(0, 8, 3);
        Check.due("35: nobody there", x.load(0), 0);
        x = eightBoys();
        x.sheet(0, 8, 40);
        Check.due("35: forty numbers for eight", x.load(0), 8);
        Check.due("35: the eighth", x.of(7, 2), 0);
        x.sheet(0, 8, 8);
        x.write(0, 7, 99);
        Check.due("35: eight numbers for eight", x.load(0), 8);
        Check.due("35: the eighth", x.of(7, 2), 99);
    }

    private static void dueLoad(int bits, int[] numbers, int came, int... cares) {
        TwoWheel x = withSheet(bits, numbers);
        String name = "35: " + java.util.Arrays.toString(numbers) + " in " + bits + " bits";
        Check.due(name, x.load(0), came);
        for (int p = 0; p < 3; p++) {
            Check.due(name + ", CARE of " + p, x.of(p, 2), cares[p]);
        }
        Check.due(name + ", no finding", x.status(-1), 0);
    }

    private static void loadEnds() {
        for (int bits : WIDTHS) {
            dueLoad(bits, new int[] {0, 99}, 2, 0, 99, 20);
            dueLoad(bits, new int[] {99, 100, 5}, 1, 99, 20, 20);
            dueLoad(bits, new int[] {0, -1, 5}, 1, 0, 20, 20);
            dueLoad(bits, new int[] {100, 5, 5}, 0, 20, 20, 20);
            dueLoad(bits, new int[] {-1, 5, 5}, 0, 20, 20, 20);
            dueLoad(bits, new int[] {5, 6, 100}, 2, 5, 6, 20);
            dueLoad(bits, new int[] {5, 6, 7}, 3, 5, 6, 7);
            dueLoad(bits, new int[] {5, 6, 7, 8}, 3, 5, 6, 7);
            dueLoad(bits, new int[] {5, 6, 7, 100}, 3, 5, 6, 7);
            dueLoad(bits, new int[] {5}, 1, 5, 20, 20);
        }
        dueLoad(8, new int[] {256 + 99, 128, 5}, 1, 99, 20, 20);
        dueLoad(16, new int[] {65536, 256, 5}, 1, 0, 20, 20);
        dueLoad(32, new int[] {1, 65536, 5}, 1, 1, 20, 20);
        dueLoad(32, new int[] {1, 256, 5}, 1, 1, 20, 20);
        dueLoad(32, new int[] {1, Integer.MIN_VALUE, 5}, 1, 1, 20, 20);
    }

    private static void judge() {
        Edges.range("36: s", EdgesSheetsTest::alike, (x, v) -> x.judge(v), 0, 3);
        Edges.refused("36: MISSING", Edges::busy, x -> x.judge(3), Check.MISSING);
        Edges.refused("36: MISSING at first", Edges::fresh, x -> x.judge(0), Check.MISSING);
        Edges.asked("36: no number", () -> withSheet(8), x -> x.judge(0), 0);
        TwoWheel x = new TwoWheel();
        x.sheet(0, 8, 0);
        Check.due("36: no number, nobody there", x.judge(0), 0);
        x.sheet(0, 8, 1);
        Check.due("36: nobody there", x.judge(0), 1);
    }

    private static void dueJudge(int want, int... numbers) {
        Edges.Maker maker = () -> {
            TwoWheel x = withSheet(16, numbers);
            x.change(0, 4, 3);
            x.change(1, 4, 9999);
            return x;
        };
        Edges.asked("36: " + java.util.Arrays.toString(numbers), maker, x -> x.judge(0), want);
    }

    private static void judgePlaces() {
        dueJudge(0);
        dueJudge(0, 3);
        dueJudge(0, 3, 9999);
        dueJudge(0, 3, 9999, 0);
        dueJudge(4, 3, 9999, 0, 0);
        dueJudge(4, 3, 9999, 0, 20);
        dueJudge(1, 2, 9999, 0);
        dueJudge(1, 4, 9998, 1);
        dueJudge(2, 3, 9998, 0);
        dueJudge(2, 3, 10000, 0);
        dueJudge(2, 3, -1, 0);
        dueJudge(3, 3, 9999, 1);
        dueJudge(3, 3, 9999, -1);
        TwoWheel x = eightBoys();
        x.sheet(3, 32, 40);
        Check.due("36: the ninth of forty is of nobody", x.judge(3), 9);
        x.sheet(3, 32, 8);
        Check.due("36: eight of eight", x.judge(3), 0);
        x.write(3, 7, 1);
        Check.due("36: the eighth isn't so", x.judge(3), 8);
    }
}
