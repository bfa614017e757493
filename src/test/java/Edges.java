import java.util.ArrayList;
import java.util.List;

/** What the tests of edges share: potteries to ask, the ends of a range, and twins that show what a call changed. */
final class Edges {
    interface Maker {
        TwoWheel make();
    }

    interface Call {
        long ask(TwoWheel x);
    }

    interface Ranged {
        long ask(TwoWheel x, int v);
    }

    private Edges() {
    }

    static TwoWheel fresh() {
        return new TwoWheel();
    }

    /** Four potters, and next to nothing as at first, so that a change of any part can be seen; an older image is kept. */
    static TwoWheel busy() {
        TwoWheel x = Check.pottery("husband heat 40 care 11 years 12;son heat 25 care 7;father years 5;boy care 3");
        x.pair(2, 1, 0);
        x.pair(3, 2, 3);
        x.rift(0, 1, 70);
        x.rift(2, 3, 33);
        x.clay(9);
        x.seed(55);
        x.hold(4, 1);
        x.hold(9, 3);
        x.go(4);
        x.image();
        x.change(2, 5, 6);
        x.rift(0, 3, 41);
        x.pair(5, 3, 7);
        x.hold(4, 2);
        x.market(2);
        Check.sheet(x, 0, 8, 50, 51, 52, 53);
        Check.sheet(x, 1, 8, 60, 61, 62);
        Check.sheet(x, 2, 16, 70, 71);
        Check.feed(x, "clay 7;boy");
        return x;
    }

    /** Eight potters: no ninth may come. */
    static TwoWheel full() {
        TwoWheel x = Check.pottery("potter;husband;son;father;partner;stranger;boy;boy heat 99");
        x.rift(6, 7, 60);
        x.hold(0, 7);
        Check.sheet(x, 3, 32, 1, 2, 3, 4, 5, 6, 7, 8, 9);
        x.image();
        return x;
    }

    /** One more may come. */
    static TwoWheel sevenOfEight() {
        return Check.pottery("boy;boy;boy;boy;boy;boy;boy");
    }

    /** Two of these throw the same round pot for ever. */
    static TwoWheel eightStrangers() {
        return Check.pottery("stranger;stranger;stranger;stranger;stranger;stranger;stranger;stranger");
    }

    /** One potter, with nobody to throw with. */
    static TwoWheel alone() {
        return Check.pottery("boy heat 44");
    }

    /** The least and the most are taken; one less, one more and what is far away is BEYOND. */
    static void range(String name, Maker maker, Ranged call, int least, int most) {
        for (int v : new int[] {least, most}) {
            TwoWheel x = maker.make();
            int were = x.status(-1);
            long got = call.ask(x, v);
            Check.due(name + ", " + v + " (" + got + ") is no finding", x.status(-1), were);
        }
        for (int v : new int[] {least - 1, most + 1, Integer.MIN_VALUE, Integer.MAX_VALUE}) {
            beyond(name + ", " + v, maker, x -> call.ask(x, v));
        }
    }

    static void beyond(String name, Maker maker, Call call) {
        refused(name, maker, call, Check.BEYOND);
    }

    /** A call that answers a finding, is counted once as that, and changes nothing else. */
    static void refused(String name, Maker maker, Call call, int finding) {
        TwoWheel asked = maker.make();
        TwoWheel still = maker.make();
        Check.due(name, call.ask(asked), finding);
        dueCounted(name, asked, still, finding);
        dueAlike(name, asked, still);
    }

    /** A call that answers no finding and changes nothing at all, so that it answers the same if it is asked again. */
    static void asked(String name, Maker maker, Call call, long want) {
        TwoWheel asked = maker.make();
        TwoWheel still = maker.make();
        Check.due(name, call.ask(asked), want);
        Check.due(name + ", again", call.ask(asked), want);
        dueCounted(name, asked, still, 0);
        dueAlike(name, asked, still);
    }

    /** Both have as many findings, but that one of these has the one finding more. */
    static void dueCounted(String name, TwoWheel asked, TwoWheel still, int finding) {
        for (int which = 0; which <= 6; which++) {
            int more = Check.BEYOND - which == finding ? 1 : 0;
            Check.due(name + ": status(" + which + ")", asked.status(which), still.status(which) + more);
        }
        Check.due(name + ": status(-1)", asked.status(-1), still.status(-1) + (finding == 0 ? 0 : 1));
    }

    static void dueAlike(String name, TwoWheel asked, TwoWheel still) {
        List<Long> got = allAnswers(asked);
        List<Long> want = allAnswers(still);
        Check.due(name + ": as many answers", got.size(), want.size());
        for (int i = 0; i < Math.min(got.size(), want.size()); i++) {
            Check.due(name + ": answer " + i + " of all that can be asked", got.get(i), want.get(i));
        }
    }

    /** All that can be asked of an object; sheets, tape and image come last, since asking for these changes it. */
    private static List<Long> allAnswers(TwoWheel x) {
        List<Long> row = new ArrayList<>();
        addPottery(x, row);
        addSheets(x, row);
        row.add((long) x.text());
        row.add((long) x.clay(1));
        row.add((long) x.count(1));
        row.add((long) x.undo());
        addPottery(x, row);
        row.add((long) x.tear());
        return row;
    }

    private static void addPottery(TwoWheel x, List<Long> row) {
        for (int what = 0; what <= 7; what++) {
            row.add((long) x.now(what));
            row.add((long) x.count(what));
        }
        for (int i = 0; i < 6; i++) {
            row.add((long) x.listed(i));
        }
        for (int spot = 0; spot < 10; spot++) {
            row.add((long) x.as(spot, 0));
        }
        int clay = x.clay(1);
        row.add((long) clay);
        x.clay(clay);
        int potters = x.count(1);
        for (int a = 0; a < potters; a++) {
            for (int what = 0; what <= 5; what++) {
                row.add((long) x.of(a, what));
            }
            for (int b = a + 1; b < potters; b++) {
                row.add((long) x.two(a, b, 0));
            }
        }
    }

    /** Each number comes to the begin of its sheet, where load() makes it CARE of potter 0. */
    private static void addSheets(TwoWheel x, List<Long> row) {
        for (int s = 0; s < 4; s++) {
            for (int t = s + 1; t < 4; t++) {
                row.add((long) x.copy(s, 0, t, 0, 0));
            }
            for (int i = 0; x.copy(s, i, s, 0, 1) == 1; i++) {
                row.add((long) x.load(s));
                row.add((long) x.of(0, 2));
            }
            row.add((long) x.judge(s));
        }
    }
}
