/** Promises 1 to 9: a new object, clay, the list, potters, rifts. */
public final class PotteryTest {
    public static void main(String[] args) {
        newObject();
        clay();
        pairAndListed();
        potter();
        ofTraits();
        pushes();
        says();
        coolsAndBoils();
        change();
        rift();
        two();
        Check.end();
    }

    private static void newObject() {
        TwoWheel x = new TwoWheel();
        for (int what = 0; what <= 5; what++) {
            Check.due("1: count(" + what + ")", x.count(what), 0);
        }
        Check.due("1: z", x.count(6), 1);
        Check.due("1: spots", x.count(7), 0);
        for (int what = 0; what <= 7; what++) {
            Check.due("1: now(" + what + ")", x.now(what), what == 5 ? -1 : 0);
        }
        for (int i = 0; i < 6; i++) {
            Check.due("1: listed(" + i + ")", x.listed(i), 1);
        }
        for (int which = -1; which <= 6; which++) {
            Check.due("1: status(" + which + ")", x.status(which), 0);
        }
        Check.due("1: clay", x.clay(10), 10);
        Check.due("1: tape", x.wipe(), 0);
        Check.due("1: no image", x.tear(), 0);
        Check.due("1: no image to undo", x.undo(), Check.NONE);
        for (int s = 0; s < 4; s++) {
            Check.due("1: sheet " + s + " is missing", x.judge(s), Check.MISSING);
        }
        for (int spot = 0; spot < 10; spot++) {
            Check.due("1: spot " + spot + " holds nothing", x.as(spot, 0), Check.MISSING);
        }
        TwoWheel y = new TwoWheel();
        y.potter(0, 5);
        Check.due("1: objects share nothing", x.count(1), 0);
    }

    private static void clay() {
        TwoWheel x = new TwoWheel();
        Check.due("2: clay(20)", x.clay(20), 10);
        Check.due("2: clay(1)", x.clay(1), 20);
        Check.beyond("2: clay(0)", x.clay(0));
        Check.beyond("2: clay(21)", x.clay(21));
        Check.beyond("2: clay(least)", x.clay(Integer.MIN_VALUE));
        Check.beyond("2: clay(most)", x.clay(Integer.MAX_VALUE));
        Check.due("2: a finding changes nothing", x.clay(5), 1);
        Check.due("2: status", x.status(0), 4);
    }

    private static void pairAndListed() {
        TwoWheel x = new TwoWheel();
        Check.due("3: pair(0, 7, 3)", x.pair(0, 7, 3), 1);
        Check.due("3: pair(0, 0, 0)", x.pair(0, 0, 0), 73);
        Check.due("3: pair(5, 7, 7)", x.pair(5, 7, 7), 1);
        Check.due("4: listed(0)", x.listed(0), 0);
        Check.due("4: listed(5)", x.listed(5), 77);
        Check.due("4: listed(1)", x.listed(1), 1);
        Check.beyond("3: pair(-1, 0, 0)", x.pair(-1, 0, 0));
        Check.beyond("3: pair(6, 0, 0)", x.pair(6, 0, 0));
        Check.beyond("3: pair(5, -1, 0)", x.pair(5, -1, 0));
        Check.beyond("3: pair(5, 8, 0)", x.pair(5, 8, 0));
        Check.beyond("3: pair(5, 0, -1)", x.pair(5, 0, -1));
        Check.beyond("3: pair(5, 0, 8)", x.pair(5, 0, 8));
        Check.due("3: a finding changes nothing", x.listed(5), 77);
        Check.beyond("4: listed(-1)", x.listed(-1));
        Check.beyond("4: listed(6)", x.listed(6));
        Check.due("3, 4: status", x.status(-1), 8);
    }

    private static void potter() {
        TwoWheel x = new TwoWheel();
        Check.beyond("5: potter(-1, 0)", x.potter(-1, 0));
        Check.beyond("5: potter(7, 0)", x.potter(7, 0));
        Check.beyond("5: potter(0, -1)", x.potter(0, -1));
        Check.beyond("5: potter(0, 100)", x.potter(0, 100));
        Check.due("5: none came", x.count(1), 0);
        for (int p = 0; p < 8; p++) {
            Check.due("5: number", x.potter(p % 7, 99 - p), p);
        }
        Check.due("5: FULL", x.potter(0, 0), Check.FULL);
        Check.beyond("5: BEYOND is asked ahead of FULL", x.potter(0, 100));
        Check.due("5: eight", x.count(1), 8);
        for (int p = 0; p < 8; p++) {
            Check.due("5: kind of " + p, x.of(p, 0), p % 7);
            Check.due("5: heat of " + p, x.of(p, 1), 99 - p);
            Check.due("5: care of " + p, x.of(p, 2), 20);
            Check.due("5: years of " + p, x.of(p, 3), 0);
            Check.due("5: thrown of " + p, x.of(p, 4), 0);
            Check.due("5: flops of " + p, x.of(p, 5), 0);
            for (int q = 0; q < 8; q++) {
                Check.due("5: rift", x.two(p, q, 0), p == q ? Check.BEYOND : 20);
            }
        }
    }

    private static void ofTraits() {
        TwoWheel x = new TwoWheel();
        Check.beyond("6: nobody", x.of(0, 0));
        x.potter(0, 42);
        Check.beyond("6: of(-1, 0)", x.of(-1, 0));
        Check.beyond("6: of(1, 0)", x.of(1, 0));
        Check.beyond("6: of(0, -1)", x.of(0, -1));
        Check.beyond("6: of(0, 10)", x.of(0, 10));
        Check.due("6: heat", x.of(0, 1), 42);
        Check.due("6: status", x.status(0), 5);
    }

    /** One of each kind, with the same heat, care and years. */
    private static TwoWheel allKinds(int heat, int care, int years) {
        TwoWheel x = new TwoWheel();
        for (int kind = 0; kind <= 6; kind++) {
            x.potter(kind, heat);
            x.change(kind, 2, care);
            x.change(kind, 3, years);
        }
        return x;
    }

    private static void dueOfAll(String name, int what, TwoWheel x, int... want) {
        for (int kind = 0; kind <= 6; kind++) {
            Check.due("6: " + name + " of kind " + kind, x.of(kind, what), want[kind]);
        }
    }

    private static void pushes() {
        dueOfAll("pushes at first", 6, allKinds(30, 20, 0), 3, 3, 6, 1, 3, 1, 2);
        dueOfAll("pushes are cut", 6, allKinds(59, 49, 39), 5, 8, 10, 4, 6, 1, 1);
        dueOfAll("pushes cut one by one", 6, allKinds(55, 45, 35), 5, 8, 10, 4, 6, 1, 1);
        dueOfAll("pushes of the careful", 6, allKinds(9, 99, 9), 0, 0, 0, 0, 2, 1, 0);
        dueOfAll("pushes at most", 6, allKinds(99, 0, 99), 9, 18, 18, 18, 20, 1, 18);
        dueOfAll("pushes of a calm one", 6, allKinds(0, 4, 0), 0, 0, 0, 0, 2, 1, 0);
    }

    private static void says() {
        dueOfAll("says calmly", 7, allKinds(49, 20, 0), -1, 0, -1, 0, -2, 0, -1);
        dueOfAll("says hotly", 7, allKinds(50, 20, 0), 1, 2, 1, 2, -2, 0, 1);
        dueOfAll("says with care 59", 7, allKinds(50, 59, 0), 1, 2, 1, 2, -2, 0, 1);
        dueOfAll("says with care 60", 7, allKinds(50, 60, 0), 1, 2, 1, -3, -2, 0, 1);
        dueOfAll("says with care 10", 7, allKinds(49, 10, 0), -1, 0, -1, 0, -2, 0, -1);
        dueOfAll("says with care 9", 7, allKinds(49, 9, 0), -1, 0, -1, 0, -2, 0, 20);
    }

    private static void coolsAndBoils() {
        dueOfAll("cools", 8, allKinds(30, 20, 0), 2, 1, 5, 1, 2, 0, 5);
        dueOfAll("boils", 9, allKinds(30, 20, 0), 5, 5, 3, 10, 10, 1, 3);
    }

    private static void change() {
        int[] first = {0, 30, 20, 0, 0, 0};
        int[] most = {6, 99, 99, 99, 9999, 9999};
        TwoWheel x = new TwoWheel();
        x.potter(0, 30);
        x.potter(0, 30);
        for (int what = 0; what <= 5; what++) {
            Check.beyond("7: below 0 of " + what, x.change(1, what, -1));
            Check.beyond("7: above most of " + what, x.change(1, what, most[what] + 1));
            Check.due("7: at first " + what, x.change(1, what, most[what]), first[what]);
            Check.due("7: of other one " + what, x.of(0, what), first[what]);
            Check.due("7: changed " + what, x.of(1, what), most[what]);
            Check.due("7: back " + what, x.change(1, what, 0), most[what]);
        }
        Check.beyond("7: what -1", x.change(0, -1, 0));
        Check.beyond("7: what 6", x.change(0, 6, 0));
        Check.beyond("7: nobody", x.change(2, 1, 0));
        Check.beyond("7: potter -1", x.change(-1, 1, 0));
        Check.due("7: status", x.status(-1), 16);
    }

    private static void rift() {
        TwoWheel x = Check.pottery("boy;boy;boy");
        Check.due("8: rift(0, 1, 99)", x.rift(0, 1, 99), 20);
        Check.due("8: from the other side", x.rift(1, 0, 0), 99);
        Check.due("8: others stay", x.rift(2, 1, 7), 20);
        Check.due("8: 0 and 1", x.two(0, 1, 0), 0);
        Check.due("8: 1 and 2", x.two(1, 2, 0), 7);
        Check.due("8: 0 and 2", x.two(0, 2, 0), 20);
        Check.beyond("8: same", x.rift(1, 1, 5));
        Check.beyond("8: nobody as b", x.rift(0, 3, 5));
        Check.beyond("8: nobody as a", x.rift(3, 0, 5));
        Check.beyond("8: a -1", x.rift(-1, 0, 5));
        Check.beyond("8: b -1", x.rift(0, -1, 5));
        Check.beyond("8: v -1", x.rift(0, 1, -1));
        Check.beyond("8: v 100", x.rift(0, 1, 100));
        Check.due("8: a finding changes nothing", x.two(1, 0, 0), 0);
    }

    private static void two() {
        TwoWheel x = Check.pottery("potter heat 55;son heat 33", "rift 0 1 29;clay 7");
        Check.due("9: rift", x.two(0, 1, 0), 29);
        Check.due("9: rises, cut", x.two(0, 1, 1), 10);
        Check.due("9: leans", x.two(0, 1, 2), -1);
        Check.due("9: leans from the other side", x.two(1, 0, 2), 1);
        Check.due("9: stands", x.two(0, 1, 3), 0);
        x.clay(1);
        Check.due("9: rises 1", x.two(0, 1, 1), 1);
        Check.due("9: leans as much as it rises", x.two(0, 1, 3), 0);
        x.change(1, 1, 40);
        Check.due("9: leans -3", x.two(0, 1, 2), -3);
        Check.due("9: leans more than it rises, to that side", x.two(0, 1, 3), 1);
        Check.due("9: leans more than it rises, to this side", x.two(1, 0, 3), 1);
        x.change(1, 1, 29);
        x.change(0, 1, 49);
        x.rift(0, 1, 19);
        Check.due("9: rises 0", x.two(0, 1, 1), 0);
        Check.due("9: leans 0", x.two(0, 1, 2), 0);
        Check.due("9: what rises 0 flops", x.two(0, 1, 3), 1);
        Check.beyond("9: same", x.two(0, 0, 0));
        Check.beyond("9: nobody", x.two(0, 2, 0));
        Check.beyond("9: nobody", x.two(2, 0, 0));
        Check.beyond("9: b -1", x.two(0, -1, 0));
        Check.beyond("9: what -1", x.two(0, 1, -1));
        Check.beyond("9: what 4", x.two(0, 1, 4));
    }
}
