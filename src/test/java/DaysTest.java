/** Promises 10 to 16: days, what is now, what will be. */
public final class DaysTest {
    public static void main(String[] args) {
        roundPots();
        leaningPots();
        flops();
        saysAheadOfThePot();
        ringing();
        heldWithin();
        years();
        listByDay();
        goldAtMost();
        roundAtMost();
        goFindings();
        now();
        ahead();
        terms();
        next();
        peace();
        when();
        lastDay();
        Check.end();
    }

    private static void roundPots() {
        TwoWheel x = Check.pottery("potter;husband years 8");
        Check.due("10: 10 for a round one", x.go(1), 10);
        Check.due("10: round", x.now(2), 1);
        Check.due("10: no ring", x.now(3), 0);
        Check.due("10: a potter cools", x.of(0, 1), 28);
        Check.due("10: a husband cools", x.of(1, 1), 29);
        Check.due("10: thrown", x.of(0, 4), 1);
        Check.due("10: thrown", x.of(1, 4), 1);
        Check.due("10: no flops", x.now(6), 0);
        Check.due("10: rift", x.two(0, 1, 0), 19);
        Check.due("10: 9 for the next", x.go(1), 19);
        Check.due("10: rift", x.two(1, 0, 0), 18);
        Check.due("10: day", x.now(0), 2);
        Check.due("10: two at once", x.go(2), 19 + 9 + 8);
    }

    private static void leaningPots() {
        TwoWheel x = Check.pottery("son heat 39;potter heat 19");
        Check.due("10: rises 10, leans 5", x.go(1), 15);
        Check.due("10: not round", x.now(2), 0);
        x = Check.pottery("potter heat 19;son heat 39");
        Check.due("10: to the other side", x.go(1), 15);
        x = Check.pottery("son heat 99;stranger", "rift 0 1 34");
        Check.due("10: leans as much as it rises", x.go(1), 34);
        Check.due("10: that is no flop", x.now(6), 0);
        x = Check.pottery("son heat 99;stranger", "rift 0 1 33");
        Check.due("10: leans more than it rises", x.go(1), 0);
        Check.due("10: that is a flop of both", x.now(6), 2);
        x = Check.pottery("stranger;son heat 99", "rift 0 1 33");
        Check.due("10: to the other side", x.go(1), 0);
        Check.due("10: a flop, too", x.now(6), 2);
    }

    private static void flops() {
        TwoWheel x = Check.pottery("father heat 40;boy heat 97;stranger", "rift 0 1 1");
        Check.due("10: what doesn't rise", x.go(1), 0);
        Check.due("10: flops", x.of(0, 5), 1);
        Check.due("10: flops", x.of(1, 5), 1);
        Check.due("10: flops of one who wasn't there", x.of(2, 5), 0);
        Check.due("10: not thrown", x.of(0, 4), 0);
        Check.due("10: not round", x.now(2), 0);
        Check.due("10: a father boils", x.of(0, 1), 50);
        Check.due("10: a boy boils, 99 at most", x.of(1, 1), 99);
        Check.due("10: one who wasn't there doesn't", x.of(2, 1), 30);
        Check.due("10: they say 0 and 1", x.two(0, 1, 0), 2);
        Check.due("10: 2 of them", x.count(4), 2);
        x = Check.pottery("potter heat 0;potter heat 0", "rift 0 1 2;clay 9");
        Check.due("10: leans 0 and doesn't rise", x.go(1), 0);
        Check.due("10: a flop", x.now(6), 2);
        Check.due("10: that isn't round", x.now(2), 0);
    }

    private static void saysAheadOfThePot() {
        TwoWheel x = Check.pottery("potter heat 50;potter heat 51");
        x.go(1);
        Check.due("10: heat behind a pot", x.of(0, 1), 48);
        Check.due("10: said in the heat ahead of it", x.two(0, 1, 0), 22);
        x = Check.pottery("potter heat 49;potter heat 49", "rift 0 1 1");
        x.go(1);
        Check.due("10: heat behind a flop", x.of(0, 1), 54);
        Check.due("10: said in the heat ahead of it, 0 at least", x.two(0, 1, 0), 0);
    }

    private static void ringing() {
        TwoWheel x = Check.pottery("stranger;stranger", "clay 20;rift 0 1 40");
        Check.due("10: 40", x.go(1), 40);
        Check.due("10: round", x.now(2), 1);
        Check.due("10: rings", x.now(3), 1);
        x.rift(0, 1, 39);
        Check.due("10: 39", x.go(1), 79);
        Check.due("10: round", x.now(2), 2);
        Check.due("10: doesn't ring", x.now(3), 1);
        x.rift(0, 1, 99);
        x.change(0, 0, Check.POTTER);
        Check.due("10: rises 99, leans 2", x.go(1), 79 + 101);
        Check.due("10: what leans isn't round", x.now(2), 2);
        Check.due("10: what leans doesn't ring", x.now(3), 1);
    }

    private static void heldWithin() {
        TwoWheel x = Check.pottery("boy heat 1 care 0;boy heat 3 care 9", "rift 0 1 90");
        x.go(1);
        Check.due("10: rift, 99 at most", x.two(0, 1, 0), 99);
        Check.due("10: heat, 0 at least", x.of(0, 1), 0);
        Check.due("10: heat, 0 at least", x.of(1, 1), 0);
        x = Check.pottery("father care 60;partner heat 20", "rift 0 1 7;clay 20");
        x.go(1);
        Check.due("10: they say -3 and -2", x.two(0, 1, 0), 2);
        x.go(1);
        Check.due("10: rift, 0 at least", x.two(0, 1, 0), 0);
        x = Check.pottery("stranger;stranger;stranger", "pair 0 0 1;pair 1 0 1;pair 2 0 2;pair 3 0 2;rift 0 2 0");
        x.change(0, 4, 9998);
        x.change(0, 5, 9998);
        x.change(1, 4, 9999);
        x.change(2, 5, 9999);
        x.go(4);
        Check.due("10: thrown, 9999 at most", x.of(0, 4), 9999);
        Check.due("10: thrown, 9999 at most", x.of(1, 4), 9999);
        Check.due("10: flops, 9999 at most", x.of(0, 5), 9999);
        Check.due("10: flops, 9999 at most", x.of(2, 5), 9999);
        Check.due("10: a stranger boils by 1", x.of(2, 1), 32);
        Check.due("10: and doesn't cool", x.of(1, 1), 30);
    }

    private static void years() {
        TwoWheel x = Check.pottery("stranger;husband years 98;boy years 99");
        x.go(9);
        Check.due("10: day 9 is ahead", x.of(0, 3), 0);
        x.go(1);
        Check.due("10: day 9 went by", x.of(0, 3), 1);
        Check.due("10: 99 at most", x.of(1, 3), 99);
        Check.due("10: 99 at most", x.of(2, 3), 99);
        x.go(9);
        Check.due("10: day 19 is ahead", x.of(0, 3), 1);
        x.go(1);
        Check.due("10: day 19 went by", x.of(0, 3), 2);
        Check.due("10: 99 at most", x.of(1, 3), 99);
        x = Check.pottery("husband heat 0 years 9;stranger");
        Check.due("10: nine pots lean", x.go(9), 99);
        Check.due("10: years come behind the pot", x.go(1), 110);
        Check.due("10: ten years don't lean", x.go(1), 120);
    }

    private static void listByDay() {
        TwoWheel x = Check.pottery("stranger;stranger;stranger", "pair 0 0 1;pair 1 1 1;pair 2 2 0;pair 3 0 3");
        x.pair(4, 7, 0);
        x.pair(5, 1, 2);
        int[] gold = {10, 10, 20, 20, 20, 30, 40, 40, 50};
        int[] throwing = {1, 0, 1, 0, 0, 1, 1, 0, 1};
        for (int day = 0; day < gold.length; day++) {
            Check.due("11: throws on day " + day, x.now(7), throwing[day]);
            Check.due("10: day " + day, x.go(1), gold[day]);
        }
        Check.due("10: thrown of 0", x.of(0, 4), 4);
        Check.due("10: thrown of 1", x.of(1, 4), 3);
        Check.due("10: thrown of 2", x.of(2, 4), 3);
        Check.due("10: a pair of one throws nothing", x.now(6), 0);
        x = eightStrangers();
        x.pair(0, 7, 6);
        x.pair(1, 6, 7);
        x.pair(2, 4, 5);
        x.pair(3, 7, 7);
        Check.due("11: 7 and 6 throw", x.now(7), 1);
        x.go(3);
        int[] thrown = {0, 0, 0, 0, 1, 1, 2, 2};
        for (int p = 0; p < 8; p++) {
            Check.due("10: thrown of " + p, x.of(p, 4), thrown[p]);
        }
        Check.due("11: 7 and 7 don't", x.now(7), 0);
        x.go(12);
        for (int p = 0; p < 8; p++) {
            Check.due("10: years of " + p, x.of(p, 3), 1);
            Check.due("10: care of " + p, x.of(p, 2), 20);
        }
        Check.due("10: thrown of 0 does not age", x.of(0, 4), 4);
        Check.due("11: heat of all", x.now(4), 240);
        Check.due("11: flops of all", x.now(6), 0);
    }

    private static TwoWheel eightStrangers() {
        return Check.pottery("stranger;stranger;stranger;stranger;stranger;stranger;stranger;stranger");
    }

    /** Two of these throw the same ringing pot for ever. */
    private static TwoWheel endless() {
        return Check.pottery("stranger;stranger", "clay 20;rift 0 1 99");
    }

    private static void goldAtMost() {
        TwoWheel x = endless();
        for (int i = 1; i <= 16; i++) {
            Check.due("10: gold", x.go(60), 60 * 99 * i);
        }
        Check.due("10: gold, 99999 at most", x.go(60), 99999);
        Check.due("10: gold stays", x.go(1), 99999);
        Check.due("11: gold", x.now(1), 99999);
        Check.due("40: gold", x.count(2), 99999);
    }

    private static void roundAtMost() {
        TwoWheel x = endless();
        for (int i = 1; i <= 166; i++) {
            x.go(60);
        }
        Check.due("11: round", x.now(2), 9960);
        Check.due("11: rings", x.now(3), 9960);
        x.go(38);
        Check.due("14: one more is there", x.next(0), 1);
        Check.due("14: one more is there", x.next(1), 1);
        x.go(1);
        Check.due("11: round", x.now(2), 9999);
        x.go(60);
        Check.due("11: round, 9999 at most", x.now(2), 9999);
        Check.due("11: rings, 9999 at most", x.now(3), 9999);
        Check.due("14: none is there", x.next(0), Check.NONE);
        Check.due("14: none is there", x.next(1), Check.NONE);
        Check.due("21: round is as now", x.reconcile(20), 0);
    }

    private static void goFindings() {
        TwoWheel x = endless();
        Check.beyond("10: go(0)", x.go(0));
        Check.beyond("10: go(61)", x.go(61));
        Check.beyond("10: go(-1)", x.go(-1));
        Check.beyond("10: go(most)", x.go(Integer.MAX_VALUE));
        Check.due("10: no day went by", x.now(0), 0);
        Check.due("10: go(60)", x.go(60), 5940);
        Check.due("10: sixty went by", x.now(0), 60);
    }

    private static void now() {
        TwoWheel x = new TwoWheel();
        Check.due("11: nobody", x.now(5), -1);
        x.potter(0, 11);
        Check.due("11: one", x.now(5), -1);
        Check.due("11: heat", x.now(4), 11);
        x.potter(0, 22);
        Check.due("11: two", x.now(5), 1);
        x.potter(0, 99);
        x.potter(0, 0);
        Check.due("11: heat together", x.now(4), 132);
        Check.due("11: the first of several", x.now(5), 1);
        x.rift(3, 2, 21);
        Check.due("11: 2 and 3", x.now(5), 19);
        x.rift(3, 1, 21);
        Check.due("11: 1 and 3, the lesser number", x.now(5), 11);
        x.rift(0, 2, 22);
        Check.due("11: 0 and 2", x.now(5), 2);
        for (int a = 0; a < 4; a++) {
            for (int b = a + 1; b < 4; b++) {
                x.rift(a, b, 0);
            }
        }
        Check.due("11: rifts of 0", x.now(5), 1);
        x.change(0, 5, 9999);
        x.change(3, 5, 2);
        Check.due("11: flops together", x.now(6), 10001);
        Check.beyond("11: now(-1)", x.now(-1));
        Check.beyond("11: now(8)", x.now(8));
    }

    private static void ahead() {
        TwoWheel x = Check.pottery("potter;husband years 8;boy heat 99 care 0", "rift 0 2 0;pair 3 2 0");
        int[] whats = {1, 3, 4, 5, 6};
        for (int p = 0; p < 3; p++) {
            for (int what : whats) {
                int was = x.of(p, what);
                Check.due("12: behind no day", x.ahead(p, what, 0), was);
                int[] told = {x.ahead(p, what, 1), x.ahead(p, what, 4), x.ahead(p, what, 40), x.ahead(p, what, 100)};
                Check.due("12: nothing changes", x.of(p, what), was);
                Check.due("12: no day goes by", x.now(0), 0);
                Check.due("12: no gold comes", x.now(1), 0);
                x.image();
                x.go(1);
                Check.due("12: behind 1", told[0], x.of(p, what));
                x.go(3);
                Check.due("12: behind 4", told[1], x.of(p, what));
                x.go(36);
                Check.due("12: behind 40", told[2], x.of(p, what));
                x.go(60);
                Check.due("12: behind 100", told[3], x.of(p, what));
                x.undo();
            }
        }
        Check.due("12: heat of 0 behind 3", x.ahead(0, 1, 3), 24);
        Check.due("12: heat of 0 behind 4, a flop", x.ahead(0, 1, 4), 29);
        Check.due("12: flops of 2 behind 4", x.ahead(2, 5, 4), 1);
        Check.due("12: years of 1 behind 100", x.ahead(1, 3, 100), 18);
        for (int what : new int[] {-1, 0, 2, 7, 8, 9, 10}) {
            Check.beyond("12: what " + what, x.ahead(0, what, 0));
        }
        Check.beyond("12: n -1", x.ahead(0, 1, -1));
        Check.beyond("12: n 101", x.ahead(0, 1, 101));
        Check.beyond("12: nobody", x.ahead(3, 1, 0));
        Check.beyond("12: potter -1", x.ahead(-1, 1, 0));
    }

    private static void terms() {
        TwoWheel x = Check.pottery("potter;potter;boy");
        Check.due("13: behind no day", x.terms(0, 1, 0), 20);
        Check.due("13: behind 1", x.terms(0, 1, 1), 18);
        Check.due("13: behind 9", x.terms(1, 0, 9), 2);
        Check.due("13: behind 100 of two who don't throw", x.terms(0, 2, 100), 20);
        Check.due("13: nothing changes", x.two(0, 1, 0), 20);
        int told = x.terms(0, 1, 100);
        x.go(60);
        x.go(40);
        Check.due("13: behind 100", told, x.two(0, 1, 0));
        x = eightStrangers();
        x.rift(6, 7, 77);
        Check.due("13: 6 and 7", x.terms(7, 6, 3), 77);
        Check.due("11: 6 and 7", x.now(5), 55);
        Check.beyond("13: same", x.terms(1, 1, 0));
        Check.beyond("13: nobody", x.terms(0, 8, 0));
        Check.beyond("13: nobody", x.terms(8, 0, 0));
        Check.beyond("13: a -1", x.terms(-1, 0, 0));
        Check.beyond("13: n -1", x.terms(0, 1, -1));
        Check.beyond("13: n 101", x.terms(0, 1, 101));
    }

    /** One pot each six days, on days that leave 1; it is round from the 20th birthday, on day 199, on. */
    private static TwoWheel lateRound(String clayAndRift) {
        return Check.pottery("father heat 0 care 10;stranger", "pair 0 0 0;pair 2 0 0;pair 3 0 0;pair 4 0 0;pair 5 0 0", clayAndRift);
    }

    private static void next() {
        TwoWheel x = Check.pottery("stranger;stranger;potter", "pair 0 0 2;pair 1 0 2;pair 2 0 2;pair 4 0 2;pair 5 2 0");
        Check.due("14: round behind 4", x.next(0), 4);
        Check.due("14: rings never", x.next(1), Check.NONE);
        x.clay(20);
        x.rift(0, 1, 40);
        Check.due("14: rings behind 4", x.next(1), 4);
        Check.due("14: nothing changes", x.now(0), 0);
        x.go(3);
        Check.due("14: round behind 1", x.next(0), 1);
        x.go(1);
        Check.due("14: more than now", x.next(1), 6);
        x = lateRound("clay 20;rift 0 1 40");
        x.go(5);
        Check.due("14: behind 201", x.next(0), Check.NONE);
        Check.due("14: behind 201", x.next(1), Check.NONE);
        x.go(1);
        Check.due("14: behind 200", x.next(0), 200);
        Check.due("14: behind 200", x.next(1), 200);
        x.rift(0, 1, 39);
        Check.due("14: round behind 200", x.next(0), 200);
        Check.due("14: which doesn't ring", x.next(1), Check.NONE);
        Check.beyond("14: next(-1)", x.next(-1));
        Check.beyond("14: next(2)", x.next(2));
        Check.due("14: status", x.status(3), 3);
    }

    private static void peace() {
        TwoWheel x = Check.pottery("potter;potter;boy");
        Check.due("15: it is", x.peace(0, 1, 99), 0);
        Check.due("15: it is, just", x.peace(0, 1, 20), 0);
        Check.due("15: behind 1", x.peace(0, 1, 19), 1);
        Check.due("15: behind 5", x.peace(1, 0, 10), 5);
        Check.due("15: behind 6", x.peace(0, 1, 9), 6);
        Check.due("15: behind 10", x.peace(0, 1, 0), 10);
        Check.due("15: never", x.peace(0, 2, 19), Check.NONE);
        Check.due("15: nothing changes", x.two(0, 1, 0), 20);
        Check.beyond("15: same", x.peace(1, 1, 0));
        Check.beyond("15: nobody", x.peace(0, 3, 0));
        Check.beyond("15: nobody", x.peace(3, 0, 0));
        Check.beyond("15: v -1", x.peace(0, 1, -1));
        Check.beyond("15: v 100", x.peace(0, 1, 100));
        x = Check.pottery("partner heat 0 care 0;stranger", "pair 0 0 0;pair 2 0 0;pair 3 0 0;pair 4 0 0;pair 5 0 0", "rift 0 1 99");
        Check.due("15: -2 each six days", x.peace(0, 1, 97), 2);
        Check.due("15: behind 200, the 34th pot", x.peace(0, 1, 31), 200);
        Check.due("15: behind 206", x.peace(0, 1, 30), Check.NONE);
    }

    private static void when() {
        TwoWheel x = Check.pottery("stranger;stranger;potter", "pair 0 0 0;pair 2 0 0;pair 3 0 0;pair 4 0 0;pair 5 0 0");
        Check.due("16: it is", x.when(0, 0), 0);
        Check.due("16: the first", x.when(0, 1), 2);
        Check.due("16: the second", x.when(1, 2), 8);
        Check.due("16: the 34th, behind 200", x.when(0, 34), 200);
        Check.due("16: the 35th, behind 206", x.when(0, 35), Check.NONE);
        Check.due("16: one who doesn't throw", x.when(2, 1), Check.NONE);
        Check.due("16: nothing changes", x.of(0, 4), 0);
        x.change(0, 4, 9999);
        Check.due("16: 9999", x.when(0, 9999), 0);
        x.rift(0, 1, 1);
        Check.due("16: flops aren't thrown", x.when(1, 1), Check.NONE);
        Check.beyond("16: v -1", x.when(0, -1));
        Check.beyond("16: v 10000", x.when(0, 10000));
        Check.beyond("16: nobody", x.when(3, 0));
        Check.beyond("16: potter -1", x.when(-1, 0));
    }

    /** An object is promised for 512 calls, in which day 99999 can't come: this asks it of the class all the same. */
    private static void lastDay() {
        TwoWheel x = Check.pottery("stranger;stranger;potter years 50", "pair 3 0 0");
        for (int i = 0; i < 1666; i++) {
            x.go(60);
        }
        Check.due("10: day", x.now(0), 99960);
        x.change(2, 3, 50);
        Check.beyond("10: BEYOND is asked ahead of STATE", x.go(61));
        Check.due("10: above 99999", x.go(40), Check.STATE);
        Check.due("10: no day went by", x.now(0), 99960);
        Check.due("24: twenty", x.market(20), 99999);
        x.image();
        Check.due("10: to 99998", x.go(18), 99999);
        Check.due("24: above 99999", x.market(2), Check.STATE);
        Check.due("24: to 99999", x.market(1), 99999);
        Check.due("24: day", x.now(0), 99999);
        x.undo();
        Check.due("10: to 99999", x.go(19), 99999);
        Check.due("10: day", x.now(0), 99999);
        Check.due("10: above 99999", x.go(1), Check.STATE);
        Check.due("24: above 99999", x.market(1), Check.STATE);
        Check.beyond("24: BEYOND is asked ahead of STATE", x.market(21));
        Check.due("2: day, 99999 at most, is a birthday each time", x.ahead(2, 3, 10), 53 + 10);
        Check.due("41: STATE", x.status(4), 4);
    }
}
