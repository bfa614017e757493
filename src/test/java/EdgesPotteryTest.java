/** Edges of promises 1 to 9, and of the first paragraph of the terms. */
public final class EdgesPotteryTest {
    private static final int[] MOST_OF_TRAIT = {6, 99, 99, 99, 9999, 9999};

    public static void main(String[] args) {
        findings();
        asAtFirst();
        nothingThereAtFirst();
        clay();
        pair();
        listed();
        potter();
        ninthPotter();
        of();
        change();
        rift();
        two();
        rises();
        flopsOrStands();
        pushesOfHeatAndYears();
        pushesOfCare();
        says();
        coolsAndBoils();
        Check.end();
    }

    /** Each finding by its number, asked where it comes up. */
    private static void findings() {
        TwoWheel x = Edges.full();
        Check.due("terms: BEYOND", x.clay(0), -1000001);
        Check.due("terms: FULL", x.potter(0, 0), -1000002);
        x.hold(1, 0);
        Check.due("terms: KIND", x.as(1, 1), -1000003);
        Check.due("terms: NONE", Edges.alone().setWith(0, 0, 0), -1000004);
        Check.due("terms: MISSING", x.judge(0), -1000006);
        Check.due("terms: SIZE", x.sheet(0, 8, -1), -1000007);
        Check.due("terms: in longs, too", x.odds(0, 0, 0, 0), -1000001L);
    }

    private static void asAtFirst() {
        TwoWheel x = new TwoWheel();
        Check.due("1: CLAY", x.clay(10), 10);
        Check.due("1: DAY", x.now(0), 0);
        Check.due("1: GOLD", x.now(1), 0);
        Check.due("1: ROUND", x.now(2), 0);
        Check.due("1: RINGS", x.now(3), 0);
        Check.due("1: z", x.seed(1), 1);
        for (int i = 0; i < 6; i++) {
            Check.due("1: PAIR " + i, x.listed(i), 1);
        }
        Check.text(x, "boy;boy", 2);
        int[] first = {6, 30, 20, 0, 0, 0};
        for (int what = 0; what <= 5; what++) {
            Check.due("1: of() " + what, x.of(1, what), first[what]);
        }
        Check.due("1: RIFT", x.two(0, 1, 0), 20);
        Check.due("1: a potter() has CARE, too", x.of(x.potter(0, 0), 2), 20);
        Check.due("1: and RIFTS", x.two(2, 0, 0), 20);
        Check.due("1: no finding yet", x.status(-1), 0);
    }

    private static void nothingThereAtFirst() {
        TwoWheel x = new TwoWheel();
        Check.due("1: no POTTERS", x.count(1), 0);
        Check.due("1: none of them", x.of(0, 0), Check.BEYOND);
        Check.due("1: THE TAPE is empty", x.count(5), 0);
        Check.due("1: THE TAPE is empty", x.wipe(), 0);
        Check.due("1: no image", x.undo(), Check.NONE);
        Check.due("1: no image", x.tear(), 0);
        Check.due("1: SPOTS hold nothing", x.count(7), 0);
        for (int spot = 0; spot < 10; spot++) {
            Check.due("1: SPOT " + spot, x.as(spot, 0), Check.MISSING);
        }
        for (int s = 0; s < 4; s++) {
            Check.due("1: SHEET " + s, x.load(s), Check.MISSING);
        }
    }

    private static void clay() {
        Edges.range("2: v", Edges::busy, (x, v) -> x.clay(v), 1, 20);
        TwoWheel x = new TwoWheel();
        Check.due("2: the least", x.clay(1), 10);
        Check.due("2: what it was", x.clay(20), 1);
        Check.due("2: the most", x.clay(20), 20);
    }

    private static void pair() {
        Edges.range("3: i", Edges::busy, (x, v) -> x.pair(v, 1, 2), 0, 5);
        Edges.range("3: A", Edges::busy, (x, v) -> x.pair(1, v, 2), 0, 7);
        Edges.range("3: B", Edges::busy, (x, v) -> x.pair(1, 2, v), 0, 7);
        TwoWheel x = new TwoWheel();
        Check.due("3: as it was at first", x.pair(0, 7, 7), 1);
        Check.due("3: the most of both, of whom there is none", x.pair(0, 0, 0), 77);
        Check.due("3: the least of both", x.pair(0, 0, 7), 0);
        Check.due("3: A is 0", x.pair(0, 7, 0), 7);
        Check.due("3: B is 0", x.pair(0, 1, 2), 70);
        Check.due("3: the last place", x.pair(5, 6, 5), 1);
        Check.due("3: a place each", x.listed(0), 12);
        Check.due("3: a place each", x.listed(5), 65);
        Check.due("3: none is a finding", x.status(-1), 0);
    }

    private static void listed() {
        Edges.range("4: i", Edges::busy, (x, v) -> x.listed(v), 0, 5);
        Edges.asked("4: the first place", () -> Check.pottery("pair 0 3 4;pair 5 5 6"), x -> x.listed(0), 34);
        Edges.asked("4: the last place", () -> Check.pottery("pair 0 3 4;pair 5 5 6"), x -> x.listed(5), 56);
    }

    private static void potter() {
        Edges.range("5: kind", Edges::busy, (x, v) -> x.potter(v, 30), 0, 6);
        Edges.range("5: heat", Edges::busy, (x, v) -> x.potter(0, v), 0, 99);
        TwoWheel x = new TwoWheel();
        Check.due("5: the first", x.potter(0, 0), 0);
        Check.due("5: the next", x.potter(6, 99), 1);
        Check.due("5: least heat", x.of(0, 1), 0);
        Check.due("5: most heat", x.of(1, 1), 99);
        Check.due("5: last kind", x.of(1, 0), 6);
    }

    private static void ninthPotter() {
        TwoWheel x = Check.pottery("boy;boy;boy;boy;boy;boy;boy");
        Check.due("5: the eighth", x.potter(2, 9), 7);
        Check.due("5: the ninth", x.potter(2, 9), Check.FULL);
        Check.due("5: eight", x.count(1), 8);
        Edges.refused("5: FULL", Edges::full, y -> y.potter(0, 0), Check.FULL);
        Edges.refused("5: FULL, the most", Edges::full, y -> y.potter(6, 99), Check.FULL);
        Edges.range("5: the eighth, kind", Edges::sevenOfEight, (y, v) -> y.potter(v, 0), 0, 6);
        Edges.range("5: the eighth, heat", Edges::sevenOfEight, (y, v) -> y.potter(0, v), 0, 99);
        Edges.beyond("5: kind -1 ahead of FULL", Edges::full, y -> y.potter(-1, 0));
        Edges.beyond("5: kind 7 ahead of FULL", Edges::full, y -> y.potter(7, 0));
        Edges.beyond("5: heat -1 ahead of FULL", Edges::full, y -> y.potter(0, -1));
        Edges.beyond("5: heat 100 ahead of FULL", Edges::full, y -> y.potter(0, 100));
    }

    private static void of() {
        Edges.range("6: what", Edges::busy, (x, v) -> x.of(3, v), 0, 9);
        Edges.range("6: one of four", Edges::busy, (x, v) -> x.of(v, 1), 0, 3);
        Edges.range("6: one of eight", Edges::full, (x, v) -> x.of(v, 9), 0, 7);
        Edges.range("6: one alone", Edges::alone, (x, v) -> x.of(v, 0), 0, 0);
        Edges.beyond("6: nobody there", Edges::fresh, x -> x.of(0, 0));
        Edges.asked("6: nothing changes", Edges::busy, x -> x.of(0, 3), 12);
    }

    private static void change() {
        Edges.range("7: one of four", Edges::busy, (x, v) -> x.change(v, 1, 5), 0, 3);
        Edges.range("7: one of eight", Edges::full, (x, v) -> x.change(v, 1, 5), 0, 7);
        Edges.range("7: what", Edges::busy, (x, v) -> x.change(1, v, 5), 0, 5);
        Edges.beyond("7: nobody there", Edges::fresh, x -> x.change(0, 0, 0));
        for (int what = 0; what <= 5; what++) {
            int w = what;
            int most = MOST_OF_TRAIT[w];
            Edges.range("7: v of " + w, Edges::busy, (x, v) -> x.change(1, w, v), 0, most);
            TwoWheel x = Edges.full();
            int was = x.of(7, w);
            Check.due("7: what it was, " + w, x.change(7, w, most), was);
            Check.due("7: the most of " + w, x.change(7, w, 0), most);
            Check.due("7: the least of " + w, x.change(7, w, 1), 0);
            Check.due("7: as told, " + w, x.of(7, w), 1);
        }
    }

    private static void rift() {
        Edges.range("8: v", Edges::busy, (x, v) -> x.rift(0, 1, v), 0, 99);
        Edges.range("8: a, with 0", Edges::busy, (x, v) -> x.rift(v, 0, 5), 1, 3);
        Edges.range("8: a, with 3", Edges::busy, (x, v) -> x.rift(v, 3, 5), 0, 2);
        Edges.range("8: b, with 0", Edges::busy, (x, v) -> x.rift(0, v, 5), 1, 3);
        Edges.range("8: b, with 3", Edges::busy, (x, v) -> x.rift(3, v, 5), 0, 2);
        Edges.range("8: a of eight", Edges::full, (x, v) -> x.rift(v, 0, 5), 1, 7);
        Edges.range("8: b of eight", Edges::full, (x, v) -> x.rift(7, v, 5), 0, 6);
        Edges.beyond("8: nobody else", Edges::alone, x -> x.rift(0, 1, 5));
        Edges.beyond("8: one and the same", Edges::busy, x -> x.rift(2, 2, 33));
        TwoWheel x = Edges.full();
        Check.due("8: the most", x.rift(7, 6, 99), 60);
        Check.due("8: the least, from the other side", x.rift(6, 7, 0), 99);
        Check.due("8: what it was", x.rift(7, 6, 1), 0);
        Check.due("8: of others", x.two(5, 7, 0), 20);
    }

    private static void two() {
        Edges.range("9: what", Edges::busy, (x, v) -> x.two(0, 1, v), 0, 3);
        for (int what = 0; what <= 3; what++) {
            int w = what;
            Edges.range("9: a, with 0, what " + w, Edges::busy, (x, v) -> x.two(v, 0, w), 1, 3);
            Edges.range("9: a, with 3, what " + w, Edges::busy, (x, v) -> x.two(v, 3, w), 0, 2);
            Edges.range("9: b, with 0, what " + w, Edges::busy, (x, v) -> x.two(0, v, w), 1, 3);
            Edges.range("9: b, with 3, what " + w, Edges::busy, (x, v) -> x.two(3, v, w), 0, 2);
        }
        Edges.range("9: a of eight", Edges::full, (x, v) -> x.two(v, 0, 0), 1, 7);
        Edges.beyond("9: nobody else", Edges::alone, x -> x.two(0, 1, 0));
        Edges.beyond("9: one and the same", Edges::busy, x -> x.two(2, 2, 0));
        Edges.asked("9: nothing changes", Edges::full, x -> x.two(7, 6, 0), 60);
    }

    private static void dueRises(int clay, int rift, int want) {
        TwoWheel x = Check.pottery("stranger;stranger");
        x.clay(clay);
        x.rift(0, 1, rift);
        Check.due("9: CLAY " + clay + ", RIFT " + rift, x.two(0, 1, 1), want);
    }

    /** A twentieth is cut. */
    private static void rises() {
        dueRises(1, 0, 0);
        dueRises(1, 19, 0);
        dueRises(1, 20, 1);
        dueRises(1, 39, 1);
        dueRises(1, 40, 2);
        dueRises(1, 99, 4);
        dueRises(19, 1, 0);
        dueRises(20, 1, 1);
        dueRises(20, 0, 0);
        dueRises(20, 99, 99);
        dueRises(19, 99, 94);
    }

    /** A SON of that heat and a STRANGER: it leans twice a tenth of the heat less 1. */
    private static void dueFlop(int heat, int clay, int rift, int leans, int flops) {
        TwoWheel x = Check.pottery("son;stranger");
        x.change(0, 1, heat);
        x.clay(clay);
        x.rift(0, 1, rift);
        String name = "9: HEAT " + heat + ", CLAY " + clay + ", RIFT " + rift;
        Check.due(name + " leans", x.two(0, 1, 2), leans);
        Check.due(name + " leans to the other side", x.two(1, 0, 2), -leans);
        Check.due(name + " flops", x.two(0, 1, 3), flops);
        Check.due(name + " flops to the other side", x.two(1, 0, 3), flops);
    }

    private static void flopsOrStands() {
        dueFlop(9, 20, 0, -1, 1);
        dueFlop(9, 19, 1, -1, 1);
        dueFlop(9, 20, 1, -1, 0);
        dueFlop(19, 20, 1, 1, 0);
        dueFlop(19, 19, 1, 1, 1);
        dueFlop(99, 20, 17, 17, 0);
        dueFlop(99, 20, 16, 17, 1);
        TwoWheel x = Check.pottery("stranger;stranger", "clay 1;rift 0 1 19");
        Check.due("9: leans 0", x.two(0, 1, 2), 0);
        Check.due("9: RISES 0, LEANS 0: it flops", x.two(0, 1, 3), 1);
        x.rift(0, 1, 20);
        Check.due("9: RISES 1, LEANS 0: it stands", x.two(0, 1, 3), 0);
    }

    private static void dueOf(int kind, int what, int heat, int care, int years, int want) {
        TwoWheel x = new TwoWheel();
        x.potter(kind, heat);
        x.change(0, 2, care);
        x.change(0, 3, years);
        String traits = ", HEAT " + heat + ", CARE " + care + ", YEARS " + years;
        Check.due("6: of(" + what + ") of kind " + kind + traits, x.of(0, what), want);
    }

    private static void duePushes(int kind, int heat, int care, int years, int want) {
        dueOf(kind, 6, heat, care, years, want);
    }

    private static void pushesOfHeatAndYears() {
        duePushes(Check.POTTER, 0, 99, 99, 0);
        duePushes(Check.POTTER, 9, 99, 99, 0);
        duePushes(Check.POTTER, 10, 99, 99, 1);
        duePushes(Check.POTTER, 99, 0, 0, 9);
        duePushes(Check.HUSBAND, 9, 99, 9, 0);
        duePushes(Check.HUSBAND, 9, 99, 10, 1);
        duePushes(Check.HUSBAND, 10, 99, 9, 1);
        duePushes(Check.HUSBAND, 99, 99, 99, 18);
        duePushes(Check.SON, 9, 99, 99, 0);
        duePushes(Check.SON, 10, 99, 99, 2);
        duePushes(Check.SON, 19, 0, 0, 2);
        duePushes(Check.SON, 20, 0, 0, 4);
        duePushes(Check.SON, 99, 0, 0, 18);
        duePushes(Check.STRANGER, 0, 0, 0, 1);
        duePushes(Check.STRANGER, 99, 0, 0, 1);
        duePushes(Check.STRANGER, 99, 99, 99, 1);
    }

    /** CARE takes no one below 0. */
    private static void pushesOfCare() {
        duePushes(Check.FATHER, 10, 9, 0, 1);
        duePushes(Check.FATHER, 10, 10, 0, 0);
        duePushes(Check.FATHER, 10, 19, 0, 0);
        duePushes(Check.FATHER, 10, 20, 0, 0);
        duePushes(Check.FATHER, 10, 20, 10, 0);
        duePushes(Check.FATHER, 10, 20, 20, 1);
        duePushes(Check.FATHER, 0, 99, 0, 0);
        duePushes(Check.FATHER, 99, 99, 0, 0);
        duePushes(Check.FATHER, 99, 0, 99, 18);
        duePushes(Check.PARTNER, 10, 9, 0, 3);
        duePushes(Check.PARTNER, 10, 10, 0, 2);
        duePushes(Check.PARTNER, 10, 20, 0, 2);
        duePushes(Check.PARTNER, 0, 99, 0, 2);
        duePushes(Check.PARTNER, 99, 0, 99, 20);
        duePushes(Check.BOY, 10, 4, 99, 2);
        duePushes(Check.BOY, 10, 5, 99, 1);
        duePushes(Check.BOY, 10, 9, 99, 1);
        duePushes(Check.BOY, 10, 10, 99, 0);
        duePushes(Check.BOY, 10, 15, 99, 0);
        duePushes(Check.BOY, 9, 99, 99, 0);
        duePushes(Check.BOY, 99, 89, 0, 1);
        duePushes(Check.BOY, 99, 99, 0, 0);
    }

    private static void dueSays(int kind, int care, int below50, int from50) {
        dueOf(kind, 7, 0, care, 99, below50);
        dueOf(kind, 7, 49, care, 0, below50);
        dueOf(kind, 7, 50, care, 0, from50);
        dueOf(kind, 7, 99, care, 99, from50);
    }

    private static void says() {
        dueSays(Check.POTTER, 0, -1, 1);
        dueSays(Check.POTTER, 99, -1, 1);
        dueSays(Check.HUSBAND, 0, 0, 2);
        dueSays(Check.HUSBAND, 99, 0, 2);
        dueSays(Check.FATHER, 0, 0, 2);
        dueSays(Check.FATHER, 59, 0, 2);
        dueSays(Check.FATHER, 60, -3, -3);
        dueSays(Check.FATHER, 99, -3, -3);
        dueSays(Check.PARTNER, 0, -2, -2);
        dueSays(Check.PARTNER, 99, -2, -2);
        dueSays(Check.SON, 0, -1, 1);
        dueSays(Check.SON, 99, -1, 1);
        dueSays(Check.BOY, 0, 20, 20);
        dueSays(Check.BOY, 9, 20, 20);
        dueSays(Check.BOY, 10, -1, 1);
        dueSays(Check.BOY, 99, -1, 1);
        dueSays(Check.STRANGER, 0, 0, 0);
        dueSays(Check.STRANGER, 99, 0, 0);
    }

    /** These go by the kind alone. */
    private static void coolsAndBoils() {
        int[] cools = {2, 1, 5, 1, 2, 0, 5, 5};
        int[] boils = {5, 5, 3, 10, 10, 1, 3, 3};
        TwoWheel x = Edges.full();
        for (int p = 0; p < 8; p++) {
            Check.due("6: COOLS of one of eight, " + p, x.of(p, 8), cools[p]);
            Check.due("6: BOILS of one of eight, " + p, x.of(p, 9), boils[p]);
        }
        for (int kind = 0; kind <= 6; kind++) {
            for (int level = 0; level <= 99; level += 99) {
                dueOf(kind, 8, level, level, level, cools[kind]);
                dueOf(kind, 9, level, level, level, boils[kind]);
            }
        }
    }
}
