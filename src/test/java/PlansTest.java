/** Promises 17 to 26: whom to set where, told pots, market days. */
public final class PlansTest {
    public static void main(String[] args) {
        setWith();
        heatFor();
        heatForByTrying();
        kindFor();
        clayFor();
        reconcile();
        fits();
        kinds();
        market();
        odds();
        seed();
        Check.end();
    }

    private static void setWith() {
        TwoWheel x = Check.pottery("stranger;stranger;potter heat 40;potter heat 49");
        Check.due("17: it leans most with 2", x.setWith(0, 0, 1), 2);
        Check.due("17: no day, the least", x.setWith(0, 0, 0), 1);
        Check.due("17: the least is another one", x.setWith(0, 2, 1), 0);
        Check.due("17: another place's day", x.setWith(1, 1, 1), 0);
        Check.due("17: reached by the next day", x.setWith(1, 1, 2), 2);
        Check.due("17: the last place", x.setWith(5, 1, 6), 2);
        Check.due("17: nothing changes", x.listed(0), 1);
        Check.due("17: nothing changes", x.now(1), 0);
        x.rift(0, 1, 26);
        Check.due("17: it rises as much as it leans: the least", x.setWith(0, 0, 1), 1);
        x.rift(0, 3, 21);
        x.clay(20);
        Check.due("17: rises 26, or 20 and leans 3, or 21 and leans 3", x.setWith(0, 0, 1), 1);
        x.rift(0, 3, 24);
        Check.due("17: rises 24 and leans 3", x.setWith(0, 0, 1), 3);
        Check.beyond("17: i -1", x.setWith(-1, 0, 0));
        Check.beyond("17: i 6", x.setWith(6, 0, 0));
        Check.beyond("17: nobody", x.setWith(0, 4, 0));
        Check.beyond("17: potter -1", x.setWith(0, -1, 0));
        Check.beyond("17: n -1", x.setWith(0, 0, -1));
        Check.beyond("17: n 61", x.setWith(0, 0, 61));
        x = Check.pottery("boy");
        Check.due("17: nobody else", x.setWith(0, 0, 60), Check.NONE);
        Check.beyond("17: BEYOND is asked ahead of NONE", x.setWith(0, 0, 61));
    }

    private static void heatFor() {
        TwoWheel x = Check.pottery("son;stranger;boy");
        Check.due("18: leans 9 of 10", x.heatFor(0, 1), 50);
        Check.due("18: no day", x.heatFor(0, 0), 0);
        Check.due("18: a stranger's doesn't count", x.heatFor(1, 30), 0);
        Check.due("18: nor that of one who doesn't throw", x.heatFor(2, 60), 0);
        Check.due("18: nothing changes", x.of(0, 1), 30);
        x.pair(0, 1, 2);
        x.change(2, 2, 0);
        Check.due("18: a boy's", x.heatFor(2, 1), 50);
        x.pair(0, 0, 1);
        x.clay(20);
        x.rift(0, 1, 99);
        Check.due("18: leans 17 of 99", x.heatFor(0, 1), 90);
        Check.due("18: so for two days it must not cool below 90", x.heatFor(0, 2), 95);
        Check.beyond("18: nobody", x.heatFor(3, 0));
        Check.beyond("18: potter -1", x.heatFor(-1, 0));
        Check.beyond("18: n -1", x.heatFor(0, -1));
        Check.beyond("18: n 61", x.heatFor(0, 61));
    }

    private static void heatForByTrying() {
        TwoWheel x = Check.pottery("husband years 31;father heat 60 care 55;boy care 5", "pair 1 1 2;pair 4 2 0;clay 15");
        int told = x.heatFor(0, 60);
        x.image();
        int best = -1;
        int most = -1;
        for (int heat = 0; heat <= 99; heat++) {
            x.change(0, 1, heat);
            int gold = x.go(60);
            if (gold > most) {
                most = gold;
                best = heat;
            }
            x.undo();
        }
        Check.due("18: as by trying each", told, best);
    }

    private static void kindFor() {
        TwoWheel x = Check.pottery("stranger heat 99 care 0 years 99;stranger;stranger", "clay 20;rift 0 1 99");
        Check.due("19: a partner leans most", x.kindFor(0, 1), Check.PARTNER);
        x.change(0, 2, 99);
        Check.due("19: husband and son lean as much", x.kindFor(0, 1), Check.HUSBAND);
        x.change(0, 3, 0);
        Check.due("19: a son leans most", x.kindFor(0, 1), Check.SON);
        Check.due("19: no day", x.kindFor(0, 0), Check.POTTER);
        Check.due("19: one who doesn't throw", x.kindFor(2, 60), Check.POTTER);
        Check.due("19: nothing changes", x.of(0, 0), Check.STRANGER);
        x.change(0, 1, 0);
        x.rift(0, 1, 1);
        Check.due("19: a husband keeps the rift, and leans", x.kindFor(0, 2), Check.HUSBAND);
        x.change(0, 2, 0);
        x.rift(0, 1, 5);
        Check.due("19: a boy says 20", x.kindFor(0, 2), Check.BOY);
        Check.beyond("19: nobody", x.kindFor(3, 0));
        Check.beyond("19: potter -1", x.kindFor(-1, 0));
        Check.beyond("19: n -1", x.kindFor(0, -1));
        Check.beyond("19: n 61", x.kindFor(0, 61));
    }

    private static void clayFor() {
        TwoWheel x = Check.pottery("stranger;stranger;boy");
        Check.due("20: rises as much as there is clay", x.clayFor(0, 60), 1);
        x.rift(0, 1, 10);
        Check.due("20: rises half", x.clayFor(1, 1), 2);
        x.rift(0, 1, 1);
        Check.due("20: rises with all clay", x.clayFor(0, 60), 20);
        x.rift(0, 1, 0);
        Check.due("20: never rises", x.clayFor(0, 1), Check.NONE);
        Check.due("20: no day", x.clayFor(0, 0), 1);
        Check.due("20: one who doesn't throw", x.clayFor(2, 60), 1);
        x.change(0, 5, 9999);
        Check.due("20: 9999 stay", x.clayFor(0, 60), 1);
        x.change(1, 5, 7);
        Check.due("20: 7 don't", x.clayFor(1, 60), Check.NONE);
        Check.due("20: nothing changes", x.clay(10), 10);
        Check.beyond("20: nobody", x.clayFor(3, 0));
        Check.beyond("20: potter -1", x.clayFor(-1, 0));
        Check.beyond("20: n -1", x.clayFor(0, -1));
        Check.beyond("20: n 61", x.clayFor(0, 61));
        x = Check.pottery("son heat 35;stranger");
        Check.due("20: leans 5", x.clayFor(0, 1), 5);
        x = Check.pottery("potter heat 30;stranger");
        Check.due("20: a rift of 20 becomes 19: 2 and a bit", x.clayFor(0, 2), 2);
    }

    private static void reconcile() {
        TwoWheel x = Check.pottery("stranger;stranger;stranger;stranger");
        Check.due("21: no day", x.reconcile(0), 0);
        Check.due("21: 0 and 1", x.reconcile(20), 3);
        x.pair(1, 3, 2);
        Check.due("21: 0 and 1 for a day", x.reconcile(1), 3);
        Check.due("21: all", x.reconcile(2), 15);
        Check.due("21: nothing changes", x.two(0, 1, 0), 20);
        for (int i = 0; i < 6; i++) {
            x.pair(i, 3, 1);
        }
        Check.due("21: 1 and 3", x.reconcile(20), 10);
        x.pair(5, 7, 1);
        x.change(1, 0, Check.POTTER);
        x.change(1, 1, 99);
        Check.due("21: it isn't round", x.reconcile(1), 0);
        x = Check.pottery("boy care 0;boy care 0");
        Check.due("21: for a day", x.reconcile(1), 3);
        Check.due("21: two who make a new rift", x.reconcile(2), Check.NONE);
        x = Check.pottery("potter heat 60;potter heat 60");
        Check.due("21: for a day", x.reconcile(1), 3);
        Check.due("21: from 0 on, 2 by the next day", x.reconcile(2), Check.NONE);
        x.clay(9);
        Check.due("21: that is too little with less clay", x.reconcile(2), 3);
        x = Check.pottery("potter heat 30;potter heat 41;potter heat 39", "pair 1 1 2;pair 2 0 0");
        Check.due("21: 0 and 1, or 1 and 2: the least", x.reconcile(2), 3);
        Check.due("21: and for three days", x.reconcile(3), 3);
        Check.beyond("21: n -1", x.reconcile(-1));
        Check.beyond("21: n 21", x.reconcile(21));
        Check.due("21: nobody", new TwoWheel().reconcile(20), 0);
    }

    private static void fits() {
        TwoWheel x = Check.pottery("potter;potter;boy care 0;boy care 0");
        Check.beyond("22: s -1", x.fits(-1, 0, 1));
        Check.beyond("22: s 4", x.fits(4, 0, 1));
        Check.due("22: MISSING", x.fits(0, 0, 1), Check.MISSING);
        Check.due("22: MISSING is asked ahead of the two", x.fits(0, 9, 9), Check.MISSING);
        x.sheet(0, 8, 0);
        Check.beyond("22: nobody", x.fits(0, 0, 4));
        Check.beyond("22: nobody", x.fits(0, 4, 0));
        Check.beyond("22: a -1", x.fits(0, -1, 0));
        Check.beyond("22: same", x.fits(0, 1, 1));
        Check.due("22: an empty sheet", x.fits(0, 0, 1), 100);
        for (int bits = 8; bits <= 32; bits *= 2) {
            Check.sheet(x, 1, bits, -1);
            Check.due("22: any", x.fits(1, 0, 1), 100);
            Check.sheet(x, 1, bits, 20, 18, 16);
            Check.due("22: one", x.fits(1, 0, 1), 1);
            Check.due("22: one", x.fits(1, 1, 0), 1);
            Check.sheet(x, 1, bits, -1, -1, 0);
            Check.due("22: 0 to 4", x.fits(1, 0, 1), 5);
            Check.sheet(x, 1, bits, 20, 19);
            Check.due("22: none", x.fits(1, 0, 1), 0);
            Check.sheet(x, 1, bits, 100);
            Check.due("22: 100", x.fits(1, 0, 1), 0);
            Check.sheet(x, 1, bits, -2);
            Check.due("22: -2", x.fits(1, 0, 1), 0);
        }
        x.pair(0, 2, 3);
        Check.sheet(x, 3, 16, -1, 99);
        Check.due("22: 59 to 99", x.fits(3, 2, 3), 41);
        Check.due("22: 99 stays", x.fits(3, 0, 2), 1);
        Check.due("22: nothing changes", x.two(2, 3, 0), 20);
        Check.sheet(x, 2, 8, new int[40]);
        Check.due("22: 0 now, but not for 39 days", x.fits(2, 2, 3), 0);
        Check.due("22: 0 for 39 days", x.fits(2, 0, 2), 1);
    }

    private static void kinds() {
        TwoWheel x = Check.pottery("boy;stranger");
        Check.beyond("23: s -1", x.kinds(-1, 0));
        Check.beyond("23: s 4", x.kinds(4, 0));
        Check.due("23: MISSING", x.kinds(0, 0), Check.MISSING);
        Check.due("23: MISSING is asked ahead of the potter", x.kinds(0, 9), Check.MISSING);
        x.sheet(0, 8, 0);
        Check.beyond("23: nobody", x.kinds(0, 2));
        Check.beyond("23: potter -1", x.kinds(0, -1));
        Check.due("23: an empty sheet", x.kinds(0, 0), 127);
        int[][] told = {{-1}, {30}, {31}, {30, -1}, {30, 28}, {30, 25}, {30, 29}, {30, 30}, {-1, -1, 26}, {30, 31}};
        int[] want = {127, 127, 0, 127, 1 + 16, 4 + 64, 2 + 8, 32, 1 + 16, 0};
        for (int i = 0; i < told.length; i++) {
            Check.sheet(x, 0, 8 << i % 3, told[i]);
            Check.due("23: sheet " + i, x.kinds(0, 0), want[i]);
        }
        x.rift(0, 1, 0);
        int[][] flops = {{30, 35}, {30, 33}, {30, 40}, {30, 31}, {30, 34}};
        int[] boil = {1 + 2, 4 + 64, 8 + 16, 32, 0};
        for (int i = 0; i < flops.length; i++) {
            Check.sheet(x, 0, 16, flops[i]);
            Check.due("23: flop " + i, x.kinds(0, 0), boil[i]);
        }
        x.rift(0, 1, 20);
        Check.sheet(x, 3, 8, 30, 29);
        Check.due("23: of the other one, the last sheet", x.kinds(3, 1), 2 + 8);
        Check.due("23: nothing changes", x.of(1, 0), Check.STRANGER);
        Check.due("23: nothing changes", x.of(0, 0), Check.BOY);
        Check.due("23: nothing changes", x.of(0, 1), 30);
    }

    private static void market() {
        TwoWheel x = Check.pottery("stranger;stranger;stranger;stranger;stranger;stranger;stranger;stranger");
        Check.beyond("24: market(0)", x.market(0));
        Check.beyond("24: market(21)", x.market(21));
        Check.beyond("24: market(-1)", x.market(-1));
        Check.due("24: no draw is made", x.count(6), 1);
        Check.due("24: 6 and 0, clay 17", x.market(1), 17);
        Check.due("24: list", x.listed(0), 60);
        Check.due("24: z", x.count(6), 662824084);
        Check.due("24: clay", x.clay(17), 17);
        Check.due("24: 3 and 7; 6 and 6; 5 and 2", x.market(3), 51);
        Check.due("24: list", x.listed(1), 37);
        Check.due("24: list", x.listed(2), 66);
        Check.due("24: list", x.listed(3), 52);
        Check.due("24: list", x.listed(4), 1);
        Check.due("24: day", x.now(0), 4);
        Check.due("24: z", x.count(6), 836760821);
        Check.due("24: clay", x.clay(1), 17);
        x.seed(-77);
        Check.due("24: 1 and 4, clay 18", x.market(1), 69);
        Check.due("24: list", x.listed(4), 14);
        Check.due("24: twenty", x.market(20) >= 69 ? 1 : 0, 1);
        Check.due("24: day", x.now(0), 25);
        x = Check.pottery("stranger;stranger");
        Check.due("24: of whom there is none", x.market(4), 0);
        Check.due("24: list", x.listed(0), 60);
    }

    private static void dueOdds(TwoWheel x, int n, long above, long below) {
        Check.due("25: above, n " + n, x.odds(0, 1, n, 0), above);
        Check.due("25: below, n " + n, x.odds(0, 1, n, 1), below);
        Check.due("25: above, n " + n, x.odds(1, 0, n, 0), above);
        Check.due("25: below, n " + n, x.odds(1, 0, n, 1), below);
    }

    private static void odds() {
        TwoWheel x = Check.pottery("stranger;stranger");
        dueOdds(x, 14, 1, 1);
        x.rift(0, 1, 1);
        dueOdds(x, 1, 1, 20);
        dueOdds(x, 14, 1, 1638400000000000000L);
        x.rift(0, 1, 10);
        dueOdds(x, 1, 19, 20);
        dueOdds(x, 14, 799006685782884121L, 1638400000000000000L);
        x.rift(0, 1, 9);
        dueOdds(x, 2, 81, 100);
        x.rift(0, 1, 4);
        dueOdds(x, 3, 64, 125);
        x.rift(0, 1, 0);
        dueOdds(x, 0, 1, 1);
        dueOdds(x, 1, 0, 1);
        dueOdds(x, 14, 0, 1);
        x = Check.pottery("son heat 50;stranger", "clay 1");
        dueOdds(x, 0, 1, 1);
        dueOdds(x, 1, 3, 5);
        dueOdds(x, 2, 9, 25);
        dueOdds(x, 14, 4782969, 6103515625L);
        Check.due("25: nothing changes", x.clay(1), 1);
        Check.due("25: no draw is made", x.count(6), 1);
        Check.beyond("25: same", x.odds(0, 0, 0, 0));
        Check.beyond("25: nobody", x.odds(0, 2, 0, 0));
        Check.beyond("25: nobody", x.odds(2, 0, 0, 0));
        Check.beyond("25: a -1", x.odds(-1, 0, 0, 0));
        Check.beyond("25: n -1", x.odds(0, 1, -1, 0));
        Check.beyond("25: n 15", x.odds(0, 1, 15, 0));
        Check.beyond("25: what -1", x.odds(0, 1, 0, -1));
        Check.beyond("25: what 2", x.odds(0, 1, 0, 2));
    }

    private static void seed() {
        TwoWheel x = new TwoWheel();
        Check.due("26: at first", x.seed(-1000001), 1);
        Check.due("26: what it was", x.seed(Integer.MIN_VALUE), -1000001);
        Check.due("26: what it was", x.seed(5), Integer.MIN_VALUE);
        Check.due("26: now", x.count(6), 5);
        Check.due("26: these are no findings", x.status(-1), 0);
    }
}
