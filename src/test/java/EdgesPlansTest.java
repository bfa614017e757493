/** Edges of promises 17 to 26: whom to set where, told pots, market days. */
public final class EdgesPlansTest {
    private static final String NO_PAIRS = "pair 0 0 0;pair 1 0 0;pair 2 0 0;pair 3 0 0;pair 4 0 0;pair 5 0 0";

    public static void main(String[] args) {
        setWith();
        setWithNobodyElse();
        setWithTheLeast();
        sixtyDaysForSetWith();
        heatFor();
        heatForTheLeast();
        sixtyDaysForHeat();
        kindFor();
        kindForTheLeast();
        sixtyDaysForKind();
        clayFor();
        leastAndMostClay();
        sixtyDaysForClay();
        reconcile();
        reconcileTheFewest();
        twentyDaysForReconcile();
        fits();
        fitsOfEmptyAndFull();
        toldAsAny();
        kinds();
        kindsOfEmptyAndFull();
        market();
        drawnEdges();
        odds();
        sureAndHopeless();
        longFractions();
        seed();
        Check.end();
    }

    /** On DAY 4, with nothing on THE LIST: a pot of place 3 comes ten times in sixty days, the last on the sixtieth. */
    private static TwoWheel onDay4(String potters, String more) {
        TwoWheel x = Check.pottery(NO_PAIRS, potters);
        x.go(4);
        Check.text(x, more, 1 + (int) more.chars().filter(c -> c == ';').count());
        return x;
    }

    private static void setWith() {
        Edges.range("17: i", Edges::busy, (x, v) -> x.setWith(v, 0, 3), 0, 5);
        Edges.range("17: one of four", Edges::busy, (x, v) -> x.setWith(0, v, 3), 0, 3);
        Edges.range("17: one of eight", Edges::full, (x, v) -> x.setWith(0, v, 3), 0, 7);
        Edges.range("17: n", Edges::busy, (x, v) -> x.setWith(0, 0, v), 0, 60);
        Edges.beyond("17: nobody there", Edges::fresh, x -> x.setWith(0, 0, 0));
    }

    private static void setWithNobodyElse() {
        Edges.refused("17: NONE", Edges::alone, x -> x.setWith(0, 0, 0), Check.NONE);
        Edges.refused("17: NONE", Edges::alone, x -> x.setWith(5, 0, 60), Check.NONE);
        Edges.beyond("17: i -1 ahead of NONE", Edges::alone, x -> x.setWith(-1, 0, 0));
        Edges.beyond("17: i 6 ahead of NONE", Edges::alone, x -> x.setWith(6, 0, 0));
        Edges.beyond("17: potter -1 ahead of NONE", Edges::alone, x -> x.setWith(0, -1, 0));
        Edges.beyond("17: potter 1 ahead of NONE", Edges::alone, x -> x.setWith(0, 1, 0));
        Edges.beyond("17: n -1 ahead of NONE", Edges::alone, x -> x.setWith(0, 0, -1));
        Edges.beyond("17: n 61 ahead of NONE", Edges::alone, x -> x.setWith(0, 0, 61));
        Edges.asked("17: one other", () -> Check.pottery("boy;boy"), x -> x.setWith(0, 0, 60), 1);
        Edges.asked("17: one other", () -> Check.pottery("boy;boy"), x -> x.setWith(0, 1, 60), 0);
    }

    private static void setWithTheLeast() {
        Edges.asked("17: all would do, the least", Edges::eightStrangers, x -> x.setWith(0, 7, 60), 0);
        Edges.asked("17: all would do, the least other", Edges::eightStrangers, x -> x.setWith(0, 0, 60), 1);
        Edges.asked("17: no DAY, the least other", Edges::busy, x -> x.setWith(3, 0, 0), 1);
        TwoWheel x = Edges.eightStrangers();
        x.rift(0, 7, 22);
        Check.due("17: the last", x.setWith(0, 0, 1), 7);
        x.rift(0, 6, 22);
        Check.due("17: the least of two", x.setWith(0, 0, 1), 6);
        Check.due("17: of the last", x.setWith(0, 7, 1), 0);
        x.rift(7, 3, 24);
        Check.due("17: of the last", x.setWith(0, 7, 1), 3);
        Check.due("17: the place of another DAY", x.setWith(5, 0, 5), 1);
        Check.due("17: the last place, its DAY", x.setWith(5, 0, 6), 6);
        x.rift(0, 1, 0);
        Check.due("17: nothing at all fetches less", x.setWith(0, 1, 1), 2);
        for (int b = 1; b < 8; b++) {
            x.rift(0, b, 0);
        }
        Check.due("17: none fetches anything", x.setWith(0, 0, 60), 1);
    }

    private static void sixtyDaysForSetWith() {
        Edges.Maker late = () -> onDay4("stranger;husband heat 0 years 4;husband heat 0", "pair 3 0 1");
        Edges.asked("17: 59 DAYS, both lean", late, x -> x.setWith(3, 0, 59), 1);
        Edges.asked("17: on the 60th 1 doesn't lean", late, x -> x.setWith(3, 0, 60), 2);
    }

    private static void heatFor() {
        Edges.range("18: one of four", Edges::busy, (x, v) -> x.heatFor(v, 3), 0, 3);
        Edges.range("18: one of eight", Edges::full, (x, v) -> x.heatFor(v, 3), 0, 7);
        Edges.range("18: n", Edges::busy, (x, v) -> x.heatFor(0, v), 0, 60);
        Edges.beyond("18: nobody there", Edges::fresh, x -> x.heatFor(0, 0));
    }

    private static void heatForTheLeast() {
        Edges.asked("18: no DAY, the least", Edges::busy, x -> x.heatFor(0, 0), 0);
        Edges.asked("18: one alone", Edges::alone, x -> x.heatFor(0, 60), 0);
        Edges.Maker son = () -> Check.pottery("son;potter heat 0", "clay 20;rift 0 1 99");
        Edges.asked("18: 90 leans most, as 99 does", son, x -> x.heatFor(0, 1), 90);
        Edges.asked("18: leans more than it rises", () -> Check.pottery("son;potter heat 0", "clay 20;rift 0 1 17"), x -> x.heatFor(0, 1), 80);
        Edges.asked("18: leans as much as it rises", () -> Check.pottery("son;potter heat 0", "clay 20;rift 0 1 18"), x -> x.heatFor(0, 1), 90);
        Edges.asked("18: leans most to the other side", () -> Check.pottery("son;potter heat 90", "clay 20;rift 0 1 99"), x -> x.heatFor(0, 1), 0);
    }

    /** A HUSBAND cools by 1 a pot: to push 9 in all pots it needs 90 in the last one. */
    private static void sixtyDaysForHeat() {
        Edges.Maker late = () -> onDay4("stranger;husband heat 0", "pair 3 0 1;clay 20;rift 0 1 99");
        Edges.asked("18: 53 DAYS, eight pots", late, x -> x.heatFor(1, 53), 97);
        Edges.asked("18: 59 DAYS, nine pots", late, x -> x.heatFor(1, 59), 98);
        Edges.asked("18: 60 DAYS, ten pots", late, x -> x.heatFor(1, 60), 99);
    }

    private static void kindFor() {
        Edges.range("19: one of four", Edges::busy, (x, v) -> x.kindFor(v, 3), 0, 3);
        Edges.range("19: one of eight", Edges::full, (x, v) -> x.kindFor(v, 3), 0, 7);
        Edges.range("19: n", Edges::busy, (x, v) -> x.kindFor(0, v), 0, 60);
        Edges.beyond("19: nobody there", Edges::fresh, x -> x.kindFor(0, 0));
    }

    private static void kindForTheLeast() {
        Edges.asked("19: no DAY, the least", Edges::busy, x -> x.kindFor(0, 0), Check.POTTER);
        Edges.asked("19: one alone", Edges::alone, x -> x.kindFor(0, 60), Check.POTTER);
        Edges.Maker old = () -> Check.pottery("stranger;boy heat 0 care 20 years 20", "clay 20;rift 0 1 1");
        Edges.asked("19: all but a STRANGER lean 1, the least", old, x -> x.kindFor(1, 1), Check.POTTER);
        Edges.asked("19: POTTER has no rift left, the least", old, x -> x.kindFor(1, 2), Check.HUSBAND);
        Edges.Maker careless = () -> Check.pottery("stranger;stranger heat 0 care 9", "clay 20;rift 0 1 1");
        Edges.asked("19: the last one, a BOY says 20", careless, x -> x.kindFor(1, 2), Check.BOY);
    }

    private static void sixtyDaysForKind() {
        Edges.Maker late = () -> onDay4("stranger;boy heat 0 care 20 years 4", "pair 3 0 1");
        Edges.asked("19: 59 DAYS, HUSBAND and FATHER lean", late, x -> x.kindFor(1, 59), Check.HUSBAND);
        Edges.asked("19: on the 60th a HUSBAND doesn't lean", late, x -> x.kindFor(1, 60), Check.FATHER);
    }

    private static void clayFor() {
        Edges.range("20: one of four", () -> Check.pottery("boy;boy;boy;boy"), (x, v) -> x.clayFor(v, 1), 0, 3);
        Edges.range("20: one of eight", Edges::eightStrangers, (x, v) -> x.clayFor(v, 1), 0, 7);
        Edges.range("20: n", Edges::eightStrangers, (x, v) -> x.clayFor(0, v), 0, 60);
        Edges.beyond("20: nobody there", Edges::fresh, x -> x.clayFor(0, 0));
    }

    private static void leastAndMostClay() {
        int[] rifts = {99, 20, 19, 10, 9, 2, 1};
        int[] clays = {1, 1, 2, 2, 3, 10, 20};
        for (int i = 0; i < rifts.length; i++) {
            int rift = rifts[i];
            Edges.asked("20: RIFT " + rift, () -> Check.pottery("stranger;stranger", "clay 7;rift 0 1 " + rift), x -> x.clayFor(1, 60), clays[i]);
        }
        Edges.Maker reconciled = () -> Check.pottery("stranger;stranger;stranger", "rift 0 1 0");
        Edges.refused("20: NONE", reconciled, x -> x.clayFor(0, 1), Check.NONE);
        Edges.refused("20: NONE", reconciled, x -> x.clayFor(1, 60), Check.NONE);
        Edges.asked("20: no DAY", reconciled, x -> x.clayFor(0, 0), 1);
        Edges.asked("20: one who doesn't throw", reconciled, x -> x.clayFor(2, 60), 1);
        Edges.beyond("20: n -1, ahead of NONE", reconciled, x -> x.clayFor(0, -1));
        Edges.beyond("20: n 61, ahead of NONE", reconciled, x -> x.clayFor(0, 61));
        TwoWheel x = reconciled.make();
        x.change(0, 5, 9998);
        Check.due("20: 9998 become 9999", x.clayFor(0, 1), Check.NONE);
        x.change(0, 5, 9999);
        Check.due("20: 9999 are as now", x.clayFor(0, 1), 1);
        Edges.asked("20: LEANS 17", () -> Check.pottery("son heat 99;stranger"), y -> y.clayFor(0, 1), 17);
        Edges.asked("20: LEANS 17 with all CLAY", () -> Check.pottery("son heat 99;stranger", "rift 0 1 17"), y -> y.clayFor(0, 1), 20);
        Edges.refused("20: LEANS 17, too much", () -> Check.pottery("son heat 99;stranger", "rift 0 1 16"), y -> y.clayFor(0, 1), Check.NONE);
    }

    /** On DAY 59 the husband has 30 YEARS, and pushes 3. */
    private static void sixtyDaysForClay() {
        Edges.Maker late = () -> onDay4("stranger;husband heat 0 years 24", "pair 3 0 1");
        Edges.asked("20: 59 DAYS, LEANS -1", late, x -> x.clayFor(1, 59), 1);
        Edges.asked("20: on the 60th LEANS -2", late, x -> x.clayFor(1, 60), 2);
    }

    private static void reconcile() {
        Edges.range("21: n", Edges::eightStrangers, (x, v) -> x.reconcile(v), 0, 20);
        Edges.asked("21: nobody there", Edges::fresh, x -> x.reconcile(20), 0);
        Edges.asked("21: one alone", Edges::alone, x -> x.reconcile(20), 0);
        Edges.asked("21: no DAY", Edges::eightStrangers, x -> x.reconcile(0), 0);
        Edges.asked("21: one DAY", Edges::eightStrangers, x -> x.reconcile(1), 3);
        Edges.Maker rising = () -> Check.pottery("potter heat 99;potter heat 99", "clay 10");
        Edges.asked("21: RIFT 2 makes RISES 1, one DAY", rising, x -> x.reconcile(1), 3);
        Edges.refused("21: NONE, two DAYS", rising, x -> x.reconcile(2), Check.NONE);
        Edges.refused("21: NONE, twenty DAYS", rising, x -> x.reconcile(20), Check.NONE);
        Edges.beyond("21: n 21, ahead of NONE", rising, x -> x.reconcile(21));
        Edges.beyond("21: n -1, ahead of NONE", rising, x -> x.reconcile(-1));
    }

    private static TwoWheel pairsOf(int... ab) {
        TwoWheel x = Edges.eightStrangers();
        for (int i = 0; i < 6; i++) {
            x.pair(i, ab[i] / 10, ab[i] % 10);
        }
        return x;
    }

    private static void reconcileTheFewest() {
        Edges.asked("21: two", () -> pairsOf(67, 76, 67, 0, 0, 0), x -> x.reconcile(20), 128 + 64);
        Edges.asked("21: three", () -> pairsOf(1, 12, 20, 0, 0, 0), x -> x.reconcile(20), 7);
        Edges.asked("21: four, two and two", () -> pairsOf(1, 67, 0, 0, 0, 0), x -> x.reconcile(2), 128 + 64 + 3);
        Edges.asked("21: the first two for a DAY", () -> pairsOf(67, 1, 0, 0, 0, 0), x -> x.reconcile(1), 128 + 64);
        Edges.asked("21: all eight", () -> pairsOf(1, 23, 45, 67, 0, 0), x -> x.reconcile(20), 255);
        Edges.asked("21: seven of eight", () -> pairsOf(1, 23, 45, 46, 0, 0), x -> x.reconcile(20), 127);
        Edges.asked("21: a RIFT of 0 doesn't rise", () -> Check.pottery("stranger;stranger", "clay 20"), x -> x.reconcile(20), 3);
        Edges.asked("21: two, though three are a lesser number", EdgesPlansTest::twoOrThree, x -> x.reconcile(3), 8 + 1);
        Edges.Maker either = () -> Check.pottery("potter heat 30;potter heat 41;potter heat 39", "pair 1 1 2;pair 2 0 0");
        Edges.asked("21: 0 and 1 or 1 and 2: the least", either, x -> x.reconcile(2), 3);
    }

    /**
     * The son cools by the pot with 3, and throws round ones with 1 and 2 then. If that pot flops he is too hot for both;
     * if the one with 1 flops, not yet: so it takes 0 and 3, or all of 0, 1 and 2.
     */
    private static TwoWheel twoOrThree() {
        TwoWheel x = Check.pottery("son heat 40;potter heat 69;potter heat 69;potter heat 69");
        Check.text(x, "clay 1;rift 0 3 99;pair 0 0 3;pair 1 0 1;pair 2 0 2", 5);
        return x;
    }

    /** On DAY 19 the husband has ten YEARS: the pot of DAY 23, which is the twentieth, is round. */
    private static void twentyDaysForReconcile() {
        Edges.Maker late = () -> onDay4("stranger;husband heat 0 years 8", "pair 5 0 1");
        Edges.asked("21: 19 DAYS", late, x -> x.reconcile(19), 0);
        Edges.asked("21: 20 DAYS", late, x -> x.reconcile(20), 3);
    }

    private static void fits() {
        Edges.range("22: s", EdgesPlansTest::withFourSheets, (x, v) -> x.fits(v, 0, 1), 0, 3);
        Edges.range("22: a, with 0", Edges::busy, (x, v) -> x.fits(0, v, 0), 1, 3);
        Edges.range("22: a, with 3", Edges::busy, (x, v) -> x.fits(0, v, 3), 0, 2);
        Edges.range("22: b, with 0", Edges::busy, (x, v) -> x.fits(0, 0, v), 1, 3);
        Edges.range("22: b, with 3", Edges::busy, (x, v) -> x.fits(0, 3, v), 0, 2);
        Edges.beyond("22: one and the same", Edges::busy, x -> x.fits(0, 1, 1));
        Edges.refused("22: MISSING", Edges::busy, x -> x.fits(3, 0, 1), Check.MISSING);
        Edges.refused("22: MISSING at first", Edges::fresh, x -> x.fits(0, 0, 1), Check.MISSING);
        Edges.refused("22: MISSING, ahead of no such one", Edges::busy, x -> x.fits(3, 4, -1), Check.MISSING);
        Edges.refused("22: MISSING, ahead of one and the same", Edges::busy, x -> x.fits(3, 1, 1), Check.MISSING);
        Edges.beyond("22: no such sheet, ahead of no such one", Edges::busy, x -> x.fits(4, 4, 4));
    }

    private static TwoWheel withFourSheets() {
        TwoWheel x = Check.pottery("potter heat 0;stranger", "clay 20");
        for (int s = 0; s < 4; s++) {
            x.sheet(s, 8, s);
        }
        return x;
    }

    /** Forty numbers tell now and 39 DAYS: any but the last. */
    private static TwoWheel tellLast(TwoWheel x, int s, int bits, int last) {
        x.sheet(s, bits, 40);
        for (int i = 0; i < 39; i++) {
            x.write(s, i, -1);
        }
        x.write(s, 39, last);
        return x;
    }

    /** The rift is 2 less each DAY, 0 at least. */
    private static TwoWheel told40(int last) {
        return tellLast(Check.pottery("partner;stranger", "clay 20"), 2, 8, last);
    }

    private static void fitsOfEmptyAndFull() {
        Edges.asked("22: no number, all fit", EdgesPlansTest::withFourSheets, x -> x.fits(0, 0, 1), 100);
        Edges.asked("22: one number, 0 now", EdgesPlansTest::withFourSheets, x -> x.fits(1, 0, 1), 1);
        Edges.asked("22: two numbers", EdgesPlansTest::withFourSheets, x -> x.fits(2, 0, 1), 1);
        Edges.asked("22: forty, 0 in the end: 0 to 78", () -> told40(0), x -> x.fits(2, 0, 1), 79);
        Edges.asked("22: forty, 1 in the end: 79", () -> told40(1), x -> x.fits(2, 0, 1), 1);
        Edges.asked("22: forty, 21 in the end: 99", () -> told40(21), x -> x.fits(2, 0, 1), 1);
        Edges.asked("22: forty, 22 in the end: none", () -> told40(22), x -> x.fits(2, 0, 1), 0);
        Edges.asked("22: forty, any in the end: all", () -> told40(-1), x -> x.fits(2, 1, 0), 100);
    }

    private static void dueFits(int told, int want) {
        for (int bits = 8; bits <= 32; bits *= 2) {
            TwoWheel x = Check.pottery("boy;boy");
            Check.sheet(x, 0, bits, told);
            Check.due("22: " + told + " now, in " + bits + " bits", x.fits(0, 0, 1), want);
        }
    }

    private static void toldAsAny() {
        dueFits(-1, 100);
        dueFits(-2, 0);
        dueFits(0, 1);
        dueFits(99, 1);
        dueFits(100, 0);
        Edges.asked("22: each RIFT from now on anew", () -> {
            TwoWheel x = Check.pottery("potter heat 50;stranger", "clay 20");
            Check.sheet(x, 0, 8, 50, 51, 50);
            return x;
        }, x -> x.fits(0, 0, 1), 1);
        TwoWheel x = Check.pottery("boy heat 99;boy");
        Check.sheet(x, 0, 8, -1, 19);
        Check.due("23: -1 is any HEAT now, but not behind a DAY", x.kinds(0, 0), 0);
        Check.sheet(x, 0, 8, -2);
        Check.due("23: -2 is no HEAT", x.kinds(0, 0), 0);
        Check.sheet(x, 0, 8, 99);
        Check.due("23: 99 is the HEAT now", x.kinds(0, 0), 127);
        Check.sheet(x, 0, 8, 100);
        Check.due("23: 100 isn't", x.kinds(0, 0), 0);
    }

    private static void kinds() {
        Edges.range("23: s", EdgesPlansTest::withFourSheets, (x, v) -> x.kinds(v, 0), 0, 3);
        Edges.range("23: one of four", Edges::busy, (x, v) -> x.kinds(0, v), 0, 3);
        Edges.range("23: one of eight", Edges::full, (x, v) -> x.kinds(3, v), 0, 7);
        Edges.refused("23: MISSING", Edges::busy, x -> x.kinds(3, 0), Check.MISSING);
        Edges.refused("23: MISSING at first", Edges::fresh, x -> x.kinds(0, 0), Check.MISSING);
        Edges.refused("23: MISSING, ahead of no such POTTER", Edges::busy, x -> x.kinds(3, 4), Check.MISSING);
        Edges.beyond("23: no such sheet, ahead of no such POTTER", Edges::busy, x -> x.kinds(-1, 4));
    }

    /** Of one who throws each DAY, and never flops. */
    private static TwoWheel heats40(int last) {
        return tellLast(Check.pottery("son heat 99;stranger", "clay 20;rift 0 1 99"), 1, 16, last);
    }

    private static void kindsOfEmptyAndFull() {
        Edges.asked("23: no number, all kinds", EdgesPlansTest::withFourSheets, x -> x.kinds(0, 1), 127);
        Edges.asked("23: 39 times 0 less", () -> heats40(99), x -> x.kinds(1, 0), 32);
        Edges.asked("23: 39 times 1 less", () -> heats40(60), x -> x.kinds(1, 0), 2 + 8);
        Edges.asked("23: 39 times 2 less", () -> heats40(21), x -> x.kinds(1, 0), 1 + 16);
        Edges.asked("23: 39 times 5 less, 0 at least", () -> heats40(0), x -> x.kinds(1, 0), 4 + 64);
        Edges.asked("23: none", () -> heats40(61), x -> x.kinds(1, 0), 0);
        Edges.asked("23: HEAT of the last of eight", () -> {
            TwoWheel x = Edges.full();
            Check.sheet(x, 0, 8, 99, 99);
            return x;
        }, x -> x.kinds(0, 7), 127);
        Edges.asked("23: any", () -> heats40(-1), x -> x.kinds(1, 0), 127);
    }

    private static void market() {
        Edges.range("24: n", Edges::busy, (x, v) -> x.market(v), 1, 20);
        Edges.range("24: n, nobody there", Edges::fresh, (x, v) -> x.market(v), 1, 20);
        TwoWheel x = Edges.eightStrangers();
        x.market(20);
        Check.due("24: twenty DAYS", x.now(0), 20);
        x = new TwoWheel();
        Check.due("24: nobody there, no GOLD", x.market(1), 0);
        Check.due("24: one DAY", x.now(0), 1);
        Check.due("24: one PAIR is told", x.listed(0), 60);
        Check.due("24: not that of the next DAY", x.listed(1), 1);
    }

    /** One DAY from that z on: the PAIR, CLAY and z that are due. */
    private static void dueDrawn(int z, int pair, int clay, int then) {
        TwoWheel x = Edges.eightStrangers();
        x.go(5);
        x.seed(z);
        x.market(1);
        Check.due("24: PAIR by z " + z, x.listed(5), pair);
        Check.due("24: CLAY by z " + z, x.clay(1), clay);
        Check.due("24: z behind " + z, x.count(6), then);
        Check.due("24: the next place by z " + z, x.listed(0), 1);
    }

    /** Rests of 0 and 7, and of 0 and 19; an int that wraps around. */
    private static void drawnEdges() {
        dueDrawn(-1108, 0, 1, -2033227653);
        dueDrawn(-2897, 0, 20, -1742754918);
        dueDrawn(-2851, 7, 1, -1363700704);
        dueDrawn(1647, 70, 1, 1341470810);
        dueDrawn(-391, 70, 20, 1727590252);
        dueDrawn(153, 77, 1, 1915351052);
        dueDrawn(-2383, 77, 20, -1802203388);
        dueDrawn(Integer.MIN_VALUE, 6, 8, 654583775);
        dueDrawn(Integer.MAX_VALUE, 14, 8, -1501140182);
        dueDrawn(-1, 14, 20, 646343466);
        dueDrawn(0, 6, 16, -1492899873);
    }

    private static void odds() {
        Edges.range("25: n", Edges::busy, (x, v) -> x.odds(0, 1, v, 0), 0, 14);
        Edges.range("25: n, below the line", Edges::busy, (x, v) -> x.odds(0, 1, v, 1), 0, 14);
        Edges.range("25: what", Edges::busy, (x, v) -> x.odds(0, 1, 3, v), 0, 1);
        Edges.range("25: a, with 0", Edges::busy, (x, v) -> x.odds(v, 0, 3, 0), 1, 3);
        Edges.range("25: a, with 3", Edges::busy, (x, v) -> x.odds(v, 3, 3, 0), 0, 2);
        Edges.range("25: b, with 0", Edges::busy, (x, v) -> x.odds(0, v, 3, 0), 1, 3);
        Edges.range("25: b, with 3", Edges::busy, (x, v) -> x.odds(3, v, 3, 0), 0, 2);
        Edges.beyond("25: one and the same", Edges::busy, x -> x.odds(2, 2, 0, 0));
        Edges.beyond("25: nobody there", Edges::fresh, x -> x.odds(0, 1, 0, 0));
    }

    private static void dueOdds(String name, Edges.Maker maker, int n, long above, long below) {
        Edges.asked(name + ", above, n " + n, maker, x -> x.odds(0, 1, n, 0), above);
        Edges.asked(name + ", below, n " + n, maker, x -> x.odds(1, 0, n, 1), below);
    }

    private static void sureAndHopeless() {
        Edges.Maker hopeless = () -> Check.pottery("stranger;stranger", "clay 20;rift 0 1 0");
        dueOdds("25: never, no time", hopeless, 0, 1, 1);
        dueOdds("25: never", hopeless, 1, 0, 1);
        dueOdds("25: never", hopeless, 14, 0, 1);
        Edges.Maker sure = () -> Check.pottery("stranger;stranger", "clay 1;rift 0 1 20");
        dueOdds("25: always, no time", sure, 0, 1, 1);
        dueOdds("25: always", sure, 1, 1, 1);
        dueOdds("25: always", sure, 14, 1, 1);
        Edges.Maker leaning = () -> Check.pottery("son heat 99;stranger", "clay 20;rift 0 1 16");
        dueOdds("25: LEANS 17, RISES 16 at most", leaning, 1, 0, 1);
        Edges.Maker barely = () -> Check.pottery("son heat 99;stranger", "clay 1;rift 0 1 17");
        dueOdds("25: LEANS 17, RISES 17 at most", barely, 1, 1, 20);
    }

    private static void longFractions() {
        dueOdds("25: CLAY 20 alone", () -> Check.pottery("stranger;stranger", "rift 0 1 1"), 14, 1, 1638400000000000000L);
        dueOdds("25: all but CLAY 1", () -> Check.pottery("stranger;stranger", "rift 0 1 19"), 1, 19, 20);
        dueOdds("25: all but CLAY 1", () -> Check.pottery("stranger;stranger", "rift 0 1 19"), 14, 799006685782884121L, 1638400000000000000L);
        dueOdds("25: 18 of 20", () -> Check.pottery("stranger;stranger", "rift 0 1 9"), 14, 22876792454961L, 100000000000000L);
        dueOdds("25: 15 of 20", () -> Check.pottery("son heat 30;stranger", "rift 0 1 17"), 1, 3, 4);
        dueOdds("25: 10 of 20", () -> Check.pottery("potter heat 0;son heat 55", "rift 0 1 19"), 14, 1, 16384);
        dueOdds("25: 16 of 20", () -> Check.pottery("stranger;stranger", "rift 0 1 4"), 14, 268435456, 6103515625L);
    }

    private static void seed() {
        int[] seeds = {0, -1, Integer.MIN_VALUE, Integer.MAX_VALUE, -1000001, -1000007, 1};
        TwoWheel x = Edges.busy();
        int findings = x.status(-1);
        int was = x.count(6);
        for (int v : seeds) {
            Check.due("26: what it was, ahead of " + v, x.seed(v), was);
            Check.due("26: what it is", x.count(6), v);
            was = v;
        }
        Check.due("26: none is a finding", x.status(-1), findings);
    }
}
