/** Edges of promises 10 to 16, and of the second paragraph of the terms. */
public final class EdgesDaysTest {
    /** One pot each six days, on those that leave 1. */
    private static final String ONE_DAY_OF_SIX = "pair 0 0 0;pair 2 0 0;pair 3 0 0;pair 4 0 0;pair 5 0 0";

    public static void main(String[] args) {
        go();
        pairsThatThrowNothing();
        placesByDay();
        flopsByRise();
        flopsByLean();
        flopsAtMost();
        boilsAtMost();
        thrownAtMost();
        coolsAtLeast();
        goldAtMost();
        roundPots();
        ringingPots();
        roundAndRingsAtMost();
        riftAtMost();
        riftAtLeast();
        saidAheadOfThePot();
        yearsByDay();
        yearsOfEight();
        yearsAtMost();
        now();
        greatestRift();
        throwsNow();
        ahead();
        aheadFar();
        terms();
        next();
        nextFar();
        peace();
        peaceFar();
        when();
        whenFar();
        lastDay();
        Check.end();
    }

    /** Two whose pots are all the same: they rise 99, and ring. */
    private static TwoWheel endless() {
        return Check.pottery("stranger;stranger", "clay 20;rift 0 1 99");
    }

    private static void go() {
        Edges.range("10: n", Edges::busy, (x, v) -> x.go(v), 1, 60);
        Edges.range("10: n, nobody there", Edges::fresh, (x, v) -> x.go(v), 1, 60);
        TwoWheel x = endless();
        Check.due("10: one day", x.go(1), 99);
        Check.due("10: DAY", x.now(0), 1);
        Check.due("10: sixty days", x.go(60), 61 * 99);
        Check.due("10: DAY", x.now(0), 61);
    }

    private static void dueNoPot(String name, TwoWheel x, int a, int b) {
        x.pair(0, a, b);
        x.pair(1, a, b);
        Check.due(name + ", it throws", x.now(7), 0);
        int heat = x.now(4);
        Check.due(name + ", GOLD", x.go(2), 0);
        Check.due(name + ", ROUND", x.now(2), 0);
        Check.due(name + ", HEAT", x.now(4), heat);
        Check.due(name + ", FLOPS", x.now(6), 0);
        Check.due(name + ", DAY", x.now(0), 2);
        for (int p = 0; p < x.count(1); p++) {
            Check.due(name + ", THROWN of " + p, x.of(p, 4), 0);
            for (int q = p + 1; q < x.count(1); q++) {
                Check.due(name + ", RIFT of " + p + " and " + q, x.two(p, q, 0), 20);
            }
        }
    }

    private static void pairsThatThrowNothing() {
        dueNoPot("10: A is nobody", Check.pottery("boy;boy care 0"), 2, 1);
        dueNoPot("10: B is nobody", Check.pottery("boy;boy care 0"), 0, 2);
        dueNoPot("10: the last is nobody", Check.pottery("boy;boy care 0"), 7, 0);
        dueNoPot("10: both are nobody", Check.pottery("boy;boy care 0"), 6, 7);
        dueNoPot("10: both are the same", Check.pottery("boy;boy care 0"), 1, 1);
        dueNoPot("10: both are the first", Check.pottery("boy;boy care 0"), 0, 0);
        dueNoPot("10: both are the last", Edges.sevenOfEight(), 7, 7);
        dueNoPot("10: the eighth is nobody", Edges.sevenOfEight(), 7, 6);
        dueNoPot("10: one alone", Edges.alone(), 0, 1);
        dueNoPot("10: nobody there", new TwoWheel(), 0, 1);
        TwoWheel x = Check.pottery("stranger;stranger;stranger");
        x.pair(0, 0, 2);
        Check.due("10: the last who is there", x.go(1), 10);
        x.pair(1, 2, 0);
        Check.due("10: as A, too", x.go(1), 20);
        x = Edges.eightStrangers();
        x.pair(0, 7, 6);
        Check.due("10: the eighth", x.go(1), 10);
    }

    private static void placesByDay() {
        TwoWheel x = Check.pottery("stranger;stranger;stranger", "pair 1 1 1;pair 2 1 1;pair 3 1 1;pair 4 1 1;pair 5 0 2");
        Check.due("10: DAY 0, place 0", x.go(1), 10);
        Check.due("10: DAYS 1 to 4 throw nothing", x.go(4), 10);
        Check.due("10: of 2", x.of(2, 4), 0);
        Check.due("10: DAY 5, place 5", x.go(1), 20);
        Check.due("10: of 2", x.of(2, 4), 1);
        Check.due("10: DAY 6, place 0", x.go(1), 30);
        Check.due("10: of 2", x.of(2, 4), 1);
        Check.due("10: DAY 11, place 5", x.go(5), 40);
        Check.due("10: of 2", x.of(2, 4), 2);
    }

    /** What came of the one pot of the two first. */
    private static void duePot(String name, TwoWheel x, int flops, int gold) {
        Check.due(name + ", flops", x.two(0, 1, 3), flops);
        Check.due(name + ", GOLD", x.go(1), gold);
        for (int p = 0; p < 2; p++) {
            Check.due(name + ", FLOPS of " + p, x.of(p, 5), flops);
            Check.due(name + ", THROWN of " + p, x.of(p, 4), 1 - flops);
        }
    }

    private static void flopsByRise() {
        duePot("10: RIFT 0", Check.pottery("stranger;stranger", "clay 20;rift 0 1 0"), 1, 0);
        duePot("10: RISES 0, cut", Check.pottery("stranger;stranger", "clay 1;rift 0 1 19"), 1, 0);
        duePot("10: RISES 1", Check.pottery("stranger;stranger", "clay 1;rift 0 1 20"), 0, 1);
        TwoWheel x = Check.pottery("stranger;stranger", "rift 0 1 1");
        x.go(1);
        Check.due("10: a flop isn't ROUND", x.now(2), 0);
    }

    private static void flopsByLean() {
        duePot("10: LEANS 17, RISES 17", Check.pottery("son heat 99;stranger", "clay 20;rift 0 1 17"), 0, 34);
        duePot("10: LEANS 17, RISES 16", Check.pottery("son heat 99;stranger", "clay 20;rift 0 1 16"), 1, 0);
        duePot("10: LEANS -17, RISES 17", Check.pottery("stranger;son heat 99", "clay 20;rift 0 1 17"), 0, 34);
        duePot("10: LEANS -17, RISES 16", Check.pottery("stranger;son heat 99", "clay 20;rift 0 1 16"), 1, 0);
        duePot("10: LEANS -1, RISES 1", Check.pottery("son heat 0;stranger", "clay 20;rift 0 1 1"), 0, 2);
        duePot("10: LEANS 20, RISES 99", Check.pottery("partner heat 99 care 0 years 99;potter heat 0", "clay 20;rift 0 1 99"), 0, 119);
    }

    private static void flopsAtMost() {
        TwoWheel x = Check.pottery("stranger;stranger", "rift 0 1 0");
        x.change(0, 5, 9998);
        x.change(1, 5, 9999);
        x.go(1);
        Check.due("10: FLOPS 9998 and 1", x.of(0, 5), 9999);
        Check.due("10: FLOPS 9999 at most", x.of(1, 5), 9999);
        x.go(1);
        Check.due("10: FLOPS 9999 at most", x.of(0, 5), 9999);
        Check.due("11: of both together", x.now(6), 19998);
    }

    private static void dueHeat(String name, String potters, int rift, int first, int second) {
        TwoWheel x = Check.pottery(potters, "rift 0 1 " + rift);
        x.go(1);
        Check.due(name + ", HEAT of 0", x.of(0, 1), first);
        Check.due(name + ", HEAT of 1", x.of(1, 1), second);
    }

    private static void boilsAtMost() {
        dueHeat("10: 99 at most", "potter heat 93;potter heat 94", 0, 98, 99);
        dueHeat("10: 99 at most", "potter heat 95;potter heat 99", 0, 99, 99);
        dueHeat("10: 99 at most", "father heat 88;father heat 89", 0, 98, 99);
        dueHeat("10: 99 at most", "partner heat 90;stranger heat 99", 0, 99, 99);
        dueHeat("10: 99 at most", "stranger heat 97;stranger heat 98", 0, 98, 99);
        dueHeat("10: 99 at most", "boy heat 95;son heat 97", 0, 98, 99);
        dueHeat("10: from 0", "husband heat 0;partner heat 0", 0, 5, 10);
    }

    private static void coolsAtLeast() {
        dueHeat("10: 0 at least", "potter heat 3;potter heat 2", 20, 1, 0);
        dueHeat("10: 0 at least", "potter heat 1;potter heat 0", 20, 0, 0);
        dueHeat("10: 0 at least", "husband heat 2;husband heat 1", 20, 1, 0);
        dueHeat("10: 0 at least", "son heat 6;boy heat 5", 20, 1, 0);
        dueHeat("10: 0 at least", "son heat 4;boy heat 0", 20, 0, 0);
        dueHeat("10: 0 at least", "partner heat 1;stranger heat 0", 20, 0, 0);
        dueHeat("10: a STRANGER doesn't cool", "stranger heat 1;stranger heat 99", 20, 1, 99);
    }

    private static void thrownAtMost() {
        TwoWheel x = endless();
        x.change(0, 4, 9998);
        x.change(1, 4, 9999);
        Check.due("10: GOLD comes all the same", x.go(1), 99);
        Check.due("10: THROWN 9998 and 1", x.of(0, 4), 9999);
        Check.due("10: THROWN 9999 at most", x.of(1, 4), 9999);
        x.go(1);
        Check.due("10: THROWN 9999 at most", x.of(0, 4), 9999);
        Check.due("10: ROUND comes all the same", x.now(2), 2);
    }

    /** Behind 1010 pots that fetch 99 each. */
    private static TwoWheel rich() {
        TwoWheel x = endless();
        for (int i = 0; i < 16; i++) {
            x.go(60);
        }
        Check.due("10: GOLD", x.go(50), 99990);
        return x;
    }

    private static void goldAtMost() {
        int[] rifts = {8, 9, 10, 99};
        int[] gold = {99998, 99999, 99999, 99999};
        for (int i = 0; i < rifts.length; i++) {
            TwoWheel x = rich();
            x.rift(0, 1, rifts[i]);
            Check.due("10: GOLD by " + rifts[i], x.go(1), gold[i]);
            Check.due("11: GOLD by " + rifts[i], x.now(1), gold[i]);
            Check.due("40: GOLD by " + rifts[i], x.count(2), gold[i]);
        }
        TwoWheel x = rich();
        x.go(1);
        Check.due("10: GOLD, 99999 at most", x.go(60), 99999);
        Check.due("24: GOLD, 99999 at most", x.market(20), 99999);
        Check.due("17: nobody has more", x.setWith(0, 1, 60), 0);
        Check.due("18: no HEAT has more", x.heatFor(0, 60), 0);
        Check.due("19: no KIND has more", x.kindFor(0, 60), 0);
    }

    private static void dueRound(String potters, int round) {
        TwoWheel x = Check.pottery(potters);
        x.go(1);
        Check.due("10: ROUND of " + potters, x.now(2), round);
        Check.due("10: THROWN of " + potters, x.of(0, 4), 1);
    }

    private static void roundPots() {
        dueRound("potter heat 19;stranger", 1);
        dueRound("potter heat 20;stranger", 0);
        dueRound("potter heat 9;stranger", 0);
        dueRound("stranger;potter heat 20", 0);
        dueRound("stranger;potter heat 10", 1);
        dueRound("potter heat 90;potter heat 99", 1);
        dueRound("potter heat 89;potter heat 90", 0);
    }

    private static void dueRings(String potters, int clay, int rift, int round, int rings) {
        TwoWheel x = Check.pottery(potters, "clay " + clay + ";rift 0 1 " + rift);
        x.go(1);
        String name = "10: " + potters + ", CLAY " + clay + ", RIFT " + rift;
        Check.due(name + ", ROUND", x.now(2), round);
        Check.due(name + ", RINGS", x.now(3), rings);
        Check.due(name + ", THROWN", x.of(1, 4), 1);
    }

    private static void ringingPots() {
        dueRings("stranger;stranger", 20, 39, 1, 0);
        dueRings("stranger;stranger", 20, 40, 1, 1);
        dueRings("stranger;stranger", 9, 88, 1, 0);
        dueRings("stranger;stranger", 9, 89, 1, 1);
        dueRings("stranger;stranger", 20, 99, 1, 1);
        dueRings("potter heat 20;stranger", 20, 40, 0, 0);
        dueRings("stranger;potter heat 20", 20, 99, 0, 0);
    }

    /** The first pot is round, but doesn't ring, so that one is full a day ahead of the other. */
    private static void roundAndRingsAtMost() {
        TwoWheel x = Check.pottery("stranger;stranger", "clay 20;rift 0 1 39");
        x.go(1);
        x.rift(0, 1, 99);
        for (int i = 0; i < 166; i++) {
            x.go(60);
        }
        x.go(38);
        Check.due("11: ROUND 9999", x.now(2), 9999);
        Check.due("11: RINGS 9998", x.now(3), 9998);
        Check.due("14: ROUND is never more", x.next(0), Check.NONE);
        Check.due("14: RINGS is, once", x.next(1), 1);
        Check.due("21: ROUND stays as it is", x.reconcile(20), 0);
        x.go(1);
        Check.due("10: ROUND, 9999 at most", x.now(2), 9999);
        Check.due("10: RINGS 9999", x.now(3), 9999);
        Check.due("14: RINGS is never more", x.next(1), Check.NONE);
        x.go(1);
        Check.due("10: ROUND, 9999 at most", x.now(2), 9999);
        Check.due("40: ROUND, 9999 at most", x.count(3), 9999);
        Check.due("10: RINGS, 9999 at most", x.now(3), 9999);
    }

    private static void dueRift(String potters, int clay, int rift, int flops, int want) {
        TwoWheel x = Check.pottery(potters, "clay " + clay + ";rift 0 1 " + rift);
        String name = "10: RIFT of " + potters + " from " + rift;
        Check.due(name + ", flops", x.two(0, 1, 3), flops);
        x.go(1);
        Check.due(name, x.two(0, 1, 0), want);
        Check.due(name + " from the other side", x.two(1, 0, 0), want);
    }

    private static void riftAtMost() {
        dueRift("boy care 0;boy care 0", 10, 58, 0, 98);
        dueRift("boy care 0;boy care 0", 10, 59, 0, 99);
        dueRift("boy care 0;boy care 0", 10, 60, 0, 99);
        dueRift("boy care 0;boy care 0", 10, 99, 0, 99);
        dueRift("potter heat 50;stranger", 20, 98, 0, 99);
        dueRift("potter heat 50;stranger", 20, 99, 0, 99);
        dueRift("boy heat 99 care 0;stranger", 1, 78, 1, 98);
        dueRift("boy heat 99 care 0;stranger", 1, 79, 1, 99);
        dueRift("boy heat 99 care 0;stranger", 1, 80, 1, 99);
    }

    private static void riftAtLeast() {
        dueRift("partner;partner", 20, 5, 0, 1);
        dueRift("partner;partner", 20, 4, 0, 0);
        dueRift("partner;partner", 20, 3, 0, 0);
        dueRift("partner;partner", 20, 0, 1, 0);
        dueRift("father care 60;father care 60", 1, 7, 1, 1);
        dueRift("father care 60;father care 60", 1, 6, 1, 0);
        dueRift("father care 60;father care 60", 1, 5, 1, 0);
        dueRift("potter heat 19;stranger", 20, 1, 0, 0);
        dueRift("potter heat 19;stranger", 20, 0, 1, 0);
    }

    private static void saidAheadOfThePot() {
        dueRift("potter heat 50;stranger", 20, 50, 0, 51);
        dueRift("potter heat 49;stranger", 20, 50, 0, 49);
        dueRift("potter heat 49;stranger", 1, 50, 1, 49);
        dueRift("potter heat 50;stranger", 1, 50, 1, 51);
        dueRift("potter heat 50;potter heat 49", 20, 50, 0, 50);
    }

    private static void yearsByDay() {
        TwoWheel x = Check.pottery("husband heat 9 years 9;stranger;boy");
        x.go(9);
        Check.due("10: DAYS 0 to 8 leave 0 to 8", x.of(2, 3), 0);
        Check.due("10: behind the ninth", x.now(1), 9 * 11);
        x.image();
        Check.due("10: YEARS come behind the pot of DAY 9", x.go(1), 10 * 11);
        Check.due("10: DAY 9", x.of(2, 3), 1);
        Check.due("10: of all", x.of(0, 3), 10);
        Check.due("10: of all", x.of(1, 3), 1);
        Check.due("10: ten YEARS push", x.go(1), 10 * 11 + 10);
        Check.due("10: DAY 10", x.of(2, 3), 1);
        x.go(8);
        Check.due("10: DAY 18", x.of(2, 3), 1);
        x.go(1);
        Check.due("10: DAY 19", x.of(2, 3), 2);
        x.undo();
        x.potter(5, 5);
        x.go(1);
        Check.due("10: one who has just come", x.of(3, 3), 1);
        Check.due("10: nobody behind", x.of(4, 3), Check.BEYOND);
        Check.due("5: who comes then has none", x.of(x.potter(0, 0), 3), 0);
    }

    /** A birthday is of YEARS alone, from the first to the last. */
    private static void yearsOfEight() {
        TwoWheel x = Edges.eightStrangers();
        for (int i = 0; i < 6; i++) {
            x.pair(i, 0, 0);
        }
        x.go(10);
        int[] want = {Check.STRANGER, 30, 20, 1, 0, 0};
        for (int p = 0; p < 8; p++) {
            for (int what = 0; what <= 5; what++) {
                Check.due("10: of() " + what + " of " + p + " on DAY 10", x.of(p, what), want[what]);
            }
        }
    }

    private static void yearsAtMost() {
        TwoWheel x = Check.pottery("boy years 97;boy years 98;boy years 99");
        x.go(10);
        int[] years = {98, 99, 99};
        for (int p = 0; p < 3; p++) {
            Check.due("10: YEARS, 99 at most, of " + p, x.of(p, 3), years[p]);
        }
        x.go(10);
        for (int p = 0; p < 3; p++) {
            Check.due("10: YEARS, 99 at most, of " + p, x.of(p, 3), 99);
        }
    }

    private static void now() {
        Edges.range("11: what", Edges::busy, (x, v) -> x.now(v), 0, 7);
        Edges.range("11: what, nobody there", Edges::fresh, (x, v) -> x.now(v), 0, 7);
        Edges.asked("11: HEAT of nobody", Edges::fresh, x -> x.now(4), 0);
        Edges.asked("11: FLOPS of nobody", Edges::fresh, x -> x.now(6), 0);
        Edges.asked("11: HEAT of eight", Edges::full, x -> x.now(4), 7 * 30 + 99);
        TwoWheel x = Edges.full();
        x.change(7, 5, 9999);
        Check.due("11: FLOPS of the last", x.now(6), 9999);
    }

    private static void greatestRift() {
        Edges.asked("11: nobody", Edges::fresh, x -> x.now(5), -1);
        Edges.asked("11: one alone", Edges::alone, x -> x.now(5), -1);
        Edges.asked("11: two, who are reconciled", () -> Check.pottery("boy;boy", "rift 0 1 0"), x -> x.now(5), 1);
        Edges.asked("11: the last two of eight", Edges::full, x -> x.now(5), 8 * 6 + 7);
        TwoWheel x = Edges.eightStrangers();
        Check.due("11: all alike, the least", x.now(5), 1);
        x.rift(0, 1, 19);
        Check.due("11: the least of the others", x.now(5), 2);
        x.rift(7, 0, 21);
        Check.due("11: told as the lesser and the greater", x.now(5), 7);
        x.rift(1, 2, 21);
        Check.due("11: the least of two that are alike", x.now(5), 7);
        x.rift(0, 6, 21);
        Check.due("11: the least of three that are alike", x.now(5), 6);
        x.rift(6, 7, 99);
        Check.due("11: the most", x.now(5), 55);
    }

    private static void throwsNow() {
        TwoWheel x = Check.pottery("boy;boy", "pair 1 0 2;pair 2 2 1;pair 3 1 1;pair 4 1 0;pair 5 7 7;rift 0 1 0");
        int[] want = {1, 0, 0, 0, 1, 0, 1};
        for (int day = 0; day < want.length; day++) {
            Check.due("11: throws on DAY " + day, x.now(7), want[day]);
            x.go(1);
        }
        x = Edges.eightStrangers();
        for (int a = 0; a < 8; a++) {
            for (int b = 0; b < 8; b++) {
                x.pair(0, a, b);
                Check.due("11: " + a + " and " + b + " throw", x.now(7), a == b ? 0 : 1);
            }
        }
    }

    private static void ahead() {
        for (int what : new int[] {1, 3, 4, 5, 6}) {
            Edges.range("12: n, what " + what, Edges::busy, (x, v) -> x.ahead(0, what, v), 0, 100);
            Edges.range("12: one of four, what " + what, Edges::busy, (x, v) -> x.ahead(v, what, 3), 0, 3);
        }
        for (int what : new int[] {Integer.MIN_VALUE, -1, 0, 2, 7, 8, 9, 10, Integer.MAX_VALUE}) {
            Edges.beyond("12: what " + what, Edges::busy, x -> x.ahead(0, what, 3));
        }
        Edges.range("12: one of eight", Edges::full, (x, v) -> x.ahead(v, 1, 3), 0, 7);
        Edges.beyond("12: nobody there", Edges::fresh, x -> x.ahead(0, 1, 0));
    }

    private static void aheadFar() {
        Edges.asked("12: behind no DAY, HEAT", () -> Check.pottery("boy heat 44;boy heat 55 years 6"), x -> x.ahead(1, 1, 0), 55);
        Edges.asked("12: behind no DAY, YEARS", () -> Check.pottery("boy heat 44;boy heat 55 years 6"), x -> x.ahead(1, 3, 0), 6);
        Edges.asked("12: behind no DAY, PUSHES", () -> Check.pottery("son heat 44;boy"), x -> x.ahead(0, 6, 0), 8);
        Edges.asked("12: behind 100 DAYS, THROWN", EdgesDaysTest::endless, x -> x.ahead(1, 4, 100), 100);
        Edges.asked("12: behind 99 DAYS, YEARS", EdgesDaysTest::endless, x -> x.ahead(1, 3, 99), 9);
        Edges.asked("12: behind 100 DAYS, YEARS", EdgesDaysTest::endless, x -> x.ahead(1, 3, 100), 10);
        Edges.asked("12: behind 100 DAYS, FLOPS", () -> Check.pottery("stranger;stranger", "rift 0 1 0"), x -> x.ahead(0, 5, 100), 100);
        Edges.asked("12: behind 100 DAYS, HEAT", () -> Check.pottery("stranger;stranger", "rift 0 1 0"), x -> x.ahead(0, 1, 100), 99);
        Edges.asked("12: behind 69 DAYS, HEAT", () -> Check.pottery("stranger;stranger", "rift 0 1 0"), x -> x.ahead(0, 1, 69), 99);
        Edges.asked("12: behind 68 DAYS, HEAT", () -> Check.pottery("stranger;stranger", "rift 0 1 0"), x -> x.ahead(0, 1, 68), 98);
    }

    private static void terms() {
        Edges.range("13: n", Edges::busy, (x, v) -> x.terms(0, 1, v), 0, 100);
        Edges.range("13: a, with 0", Edges::busy, (x, v) -> x.terms(v, 0, 1), 1, 3);
        Edges.range("13: a, with 3", Edges::busy, (x, v) -> x.terms(v, 3, 1), 0, 2);
        Edges.range("13: b, with 0", Edges::busy, (x, v) -> x.terms(0, v, 1), 1, 3);
        Edges.range("13: b, with 3", Edges::busy, (x, v) -> x.terms(3, v, 1), 0, 2);
        Edges.range("13: b of eight", Edges::full, (x, v) -> x.terms(0, v, 0), 1, 7);
        Edges.beyond("13: one and the same", Edges::busy, x -> x.terms(2, 2, 0));
        Edges.beyond("13: nobody there", Edges::fresh, x -> x.terms(0, 1, 0));
        Edges.Maker slow = () -> Check.pottery("potter heat 0;stranger", "clay 20;rift 0 1 99");
        Edges.asked("13: behind no DAY", slow, x -> x.terms(0, 1, 0), 99);
        Edges.asked("13: behind 1 DAY", slow, x -> x.terms(1, 0, 1), 98);
        Edges.asked("13: behind 98 DAYS", slow, x -> x.terms(0, 1, 98), 1);
        Edges.asked("13: behind 99 DAYS", slow, x -> x.terms(0, 1, 99), 0);
        Edges.asked("13: behind 100 DAYS", slow, x -> x.terms(0, 1, 100), 0);
    }

    private static void next() {
        Edges.range("14: what", EdgesDaysTest::endless, (x, v) -> x.next(v), 0, 1);
        Edges.asked("14: behind 1 DAY", EdgesDaysTest::endless, x -> x.next(0), 1);
        Edges.asked("14: behind 1 DAY, more than now", () -> {
            TwoWheel x = endless();
            x.go(3);
            return x;
        }, x -> x.next(1), 1);
        Edges.refused("14: NONE, nobody there", Edges::fresh, x -> x.next(0), Check.NONE);
        Edges.refused("14: NONE, nobody there", Edges::fresh, x -> x.next(1), Check.NONE);
        Edges.refused("14: NONE, one alone", Edges::alone, x -> x.next(0), Check.NONE);
        Edges.beyond("14: what -1, ahead of NONE", Edges::alone, x -> x.next(-1));
        Edges.beyond("14: what 2, ahead of NONE", Edges::alone, x -> x.next(2));
        Edges.asked("14: ROUND, RISES 39", () -> Check.pottery("stranger;stranger", "clay 20;rift 0 1 39"), x -> x.next(0), 1);
        Edges.refused("14: NONE rings, RISES 39", () -> Check.pottery("stranger;stranger", "clay 20;rift 0 1 39"), x -> x.next(1), Check.NONE);
    }

    /** A father's pots become round by his 20th birthday, on DAY 199: that of DAY 205 is the first. */
    private static TwoWheel lateRound(int days) {
        TwoWheel x = Check.pottery("father heat 0 care 10;stranger", ONE_DAY_OF_SIX, "clay 20;rift 0 1 40");
        x.go(days);
        return x;
    }

    private static void nextFar() {
        for (int what = 0; what <= 1; what++) {
            int w = what;
            Edges.refused("14: NONE, behind 201 DAYS", () -> lateRound(5), x -> x.next(w), Check.NONE);
            Edges.asked("14: behind 200 DAYS", () -> lateRound(6), x -> x.next(w), 200);
            Edges.asked("14: behind 199 DAYS", () -> lateRound(7), x -> x.next(w), 199);
        }
    }

    private static void peace() {
        Edges.Maker two = () -> Check.pottery("potter;potter", "rift 0 1 1;clay 20");
        Edges.range("15: v", two, (x, v) -> x.peace(0, 1, v), 0, 99);
        Edges.asked("15: v or less, now", two, x -> x.peace(0, 1, 1), 0);
        Edges.asked("15: v or less, behind 1 DAY", two, x -> x.peace(1, 0, 0), 1);
        Edges.Maker four = () -> Check.pottery("potter;potter;potter;potter");
        Edges.range("15: a, with 0", four, (x, v) -> x.peace(v, 0, 20), 1, 3);
        Edges.range("15: a, with 3", four, (x, v) -> x.peace(v, 3, 20), 0, 2);
        Edges.range("15: b, with 0", four, (x, v) -> x.peace(0, v, 20), 1, 3);
        Edges.range("15: b, with 3", four, (x, v) -> x.peace(3, v, 20), 0, 2);
        Edges.beyond("15: one and the same", four, x -> x.peace(1, 1, 99));
        Edges.beyond("15: one and the same, ahead of NONE", four, x -> x.peace(1, 1, 0));
        Edges.beyond("15: v -1, ahead of NONE", four, x -> x.peace(2, 3, -1));
        Edges.beyond("15: nobody there", Edges::fresh, x -> x.peace(0, 1, 99));
        Edges.refused("15: NONE", four, x -> x.peace(2, 3, 19), Check.NONE);
        Edges.refused("15: NONE, they don't throw", four, x -> x.peace(2, 3, 0), Check.NONE);
        Edges.asked("15: more than 99 it can't be", () -> Check.pottery("boy care 0;boy care 0"), x -> x.peace(0, 1, 99), 0);
    }

    /** Two less each six days, on those that leave 1: the 34th pot is that of DAY 199. */
    private static TwoWheel latePeace(int day) {
        TwoWheel x = Check.pottery("partner heat 0 care 0;stranger", ONE_DAY_OF_SIX, "clay 20;rift 0 1 99");
        if (day > 0) {
            x.go(day);
        }
        return x;
    }

    private static void peaceFar() {
        Edges.asked("15: behind 200 DAYS", () -> latePeace(0), x -> x.peace(0, 1, 31), 200);
        Edges.asked("15: behind 199 DAYS", () -> latePeace(1), x -> x.peace(0, 1, 31), 199);
        Edges.refused("15: NONE, behind 201 DAYS", () -> latePeace(5), x -> x.peace(0, 1, 29), Check.NONE);
        Edges.asked("15: behind 200 DAYS", () -> latePeace(6), x -> x.peace(0, 1, 29), 200);
    }

    private static void when() {
        Edges.Maker many = () -> {
            TwoWheel x = endless();
            x.change(0, 4, 9999);
            return x;
        };
        Edges.range("16: v", many, (x, v) -> x.when(0, v), 0, 9999);
        Edges.range("16: one of four", Edges::busy, (x, v) -> x.when(v, 0), 0, 3);
        Edges.range("16: one of eight", Edges::full, (x, v) -> x.when(v, 0), 0, 7);
        Edges.beyond("16: nobody there", Edges::fresh, x -> x.when(0, 0));
        Edges.asked("16: 9999 are there", many, x -> x.when(0, 9999), 0);
        Edges.asked("16: v or more, now", many, x -> x.when(0, 9998), 0);
        Edges.asked("16: behind 1 DAY", many, x -> x.when(1, 1), 1);
        Edges.asked("16: behind 200 DAYS", many, x -> x.when(1, 200), 200);
        Edges.refused("16: NONE, behind 201 DAYS", many, x -> x.when(1, 201), Check.NONE);
        Edges.refused("16: NONE, 9999", many, x -> x.when(1, 9999), Check.NONE);
        Edges.refused("16: NONE, one alone", Edges::alone, x -> x.when(0, 1), Check.NONE);
        Edges.beyond("16: v -1", Edges::alone, x -> x.when(0, -1));
        Edges.beyond("16: v 10000, ahead of NONE", Edges::alone, x -> x.when(0, 10000));
    }

    private static void whenFar() {
        Edges.asked("16: the 34th, behind 200 DAYS", () -> latePeace(0), x -> x.when(0, 34), 200);
        Edges.refused("16: NONE, the 35th, behind 201 DAYS", () -> latePeace(5), x -> x.when(1, 35), Check.NONE);
        Edges.asked("16: the 35th, behind 200 DAYS", () -> latePeace(6), x -> x.when(1, 35), 200);
    }

    /** More calls than an object is promised for (512), since DAY can't come so far in these. */
    private static TwoWheel old(int day) {
        TwoWheel x = Check.pottery("stranger;stranger;boy", "pair 3 0 0");
        for (int i = 0; i < 1666; i++) {
            x.go(60);
        }
        x.go(day - 99960);
        x.change(2, 3, 50);
        Check.due("10: DAY", x.now(0), day);
        return x;
    }

    private static void lastDay() {
        Edges.refused("10: STATE, DAY 100000", () -> old(99979), x -> x.go(21), Check.STATE);
        Edges.refused("24: STATE, DAY 100000", () -> old(99980), x -> x.market(20), Check.STATE);
        Edges.refused("10: STATE", () -> old(99999), x -> x.go(1), Check.STATE);
        Edges.refused("24: STATE", () -> old(99999), x -> x.market(1), Check.STATE);
        Edges.beyond("10: BEYOND ahead of STATE, 0", () -> old(99999), x -> x.go(0));
        Edges.beyond("10: BEYOND ahead of STATE, 61", () -> old(99999), x -> x.go(61));
        Edges.beyond("24: BEYOND ahead of STATE, 0", () -> old(99999), x -> x.market(0));
        Edges.beyond("24: BEYOND ahead of STATE, 21", () -> old(99999), x -> x.market(21));
        TwoWheel x = old(99979);
        x.go(20);
        Check.due("10: to DAY 99999", x.now(0), 99999);
        x = old(99979);
        x.market(20);
        Check.due("24: to DAY 99999", x.now(0), 99999);
        Check.due("41: no finding", x.status(-1), 0);
        Edges.asked("terms: DAY, 99999 at most, leaves 9 by 10", () -> old(99999), y -> y.ahead(2, 3, 10), 60);
        Edges.asked("terms: DAY, 99999 at most, leaves 9 by 10", () -> old(99998), y -> y.ahead(2, 3, 10), 59);
    }
}
