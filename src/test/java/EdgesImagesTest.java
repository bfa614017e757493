/** Edges of promises 37 to 41: images, counts, findings. */
public final class EdgesImagesTest {
    public static void main(String[] args) {
        image();
        eachPartIsKept();
        whoCameLaterIsGone();
        tapeIsNotKept();
        sheetsAreNotKept();
        latestIsKept();
        undo();
        tear();
        count();
        countOfEmptyAndFull();
        status();
        statusOfOthers();
        statusIsNotTakenBack();
        whatIsNoFinding();
        manyFindings();
        Check.end();
    }

    private static void image() {
        Check.due("37: at first", new TwoWheel().image(), 1);
        Check.due("37: again", Edges.busy().image(), 1);
        Check.due("37: of eight", Edges.full().image(), 1);
        TwoWheel x = new TwoWheel();
        x.image();
        x.potter(0, 5);
        Check.due("38: nothing but what is at first", x.undo(), 0);
        Check.due("38: nobody", x.count(1), 0);
    }

    private static TwoWheel kept(Edges.Maker maker) {
        TwoWheel x = maker.make();
        x.image();
        return x;
    }

    /** One part alone is changed behind the image; undo() must bring it back. */
    private static void dueKept(String part, Edges.Call change) {
        TwoWheel asked = kept(Edges::busy);
        TwoWheel still = kept(Edges::busy);
        change.ask(asked);
        Check.due("38: " + part + ", DAY", asked.undo(), still.now(0));
        Edges.dueCounted("38: " + part, asked, still, 0);
        Edges.dueAlike("38: " + part, asked, still);
    }

    private static void eachPartIsKept() {
        dueKept("nothing", x -> 0);
        dueKept("CLAY", x -> x.clay(1));
        dueKept("z", x -> x.seed(7));
        for (int place = 0; place < 6; place++) {
            int i = place;
            dueKept("PAIR " + i, x -> x.pair(i, 6, 6));
        }
        for (int spot = 0; spot < 10; spot++) {
            int i = spot;
            dueKept("SPOT " + i, x -> x.hold(i, 0));
            dueKept("SPOT " + i + ", nothing", x -> x.hold(i, -1));
        }
        for (int potter = 0; potter < 4; potter++) {
            for (int what = 0; what <= 5; what++) {
                int p = potter;
                int w = what;
                dueKept("trait " + w + " of " + p, x -> x.change(p, w, 5));
            }
            for (int other = 0; other < potter; other++) {
                int a = potter;
                int b = other;
                dueKept("RIFT of " + a + " and " + b, x -> x.rift(a, b, 1));
            }
        }
        dueKept("DAY", x -> x.go(1));
        dueKept("DAYS", x -> x.go(60));
        dueKept("a market", x -> x.market(20));
        dueKept("POTTERS", x -> x.potter(1, 1));
        dueKept("CARE", x -> x.load(0));
    }

    private static void whoCameLaterIsGone() {
        TwoWheel x = kept(Edges::alone);
        for (int p = 1; p < 8; p++) {
            x.potter(5, 5);
        }
        x.rift(0, 7, 1);
        x.rift(6, 7, 2);
        x.change(7, 4, 3);
        x.hold(0, 7);
        x.undo();
        Check.due("38: one is left", x.count(1), 1);
        Check.due("38: nobody else", x.of(1, 0), Check.BEYOND);
        Check.due("38: the spot holds nothing", x.as(0, 0), Check.MISSING);
        Check.due("38: no spot does", x.count(7), 0);
        for (int p = 1; p < 8; p++) {
            Check.due("5: there is room again", x.potter(0, 9), p);
        }
        Check.due("5: for seven", x.potter(0, 9), Check.FULL);
        Check.due("5: RIFT as at first", x.two(0, 7, 0), 20);
        Check.due("5: RIFT as at first", x.two(7, 6, 0), 20);
        Check.due("5: THROWN as at first", x.of(7, 4), 0);
        Check.due("5: CARE as at first", x.of(7, 2), 20);
    }

    private static void tapeIsNotKept() {
        TwoWheel x = new TwoWheel();
        Check.feed(x, "clay 1");
        x.image();
        x.feed('2', 1);
        x.undo();
        Check.due("37: THE TAPE stays as it is", x.count(5), 7);
        Check.due("37: THE TAPE stays as it is", x.text(), 1);
        Check.due("37: CLAY 12", x.clay(12), 12);
        x.undo();
        Check.due("37: CLAY as kept", x.clay(10), 10);
        Check.due("37: THE TAPE is empty", x.wipe(), 0);
        Check.feed(x, " ".repeat(120));
        x.undo();
        Check.due("37: THE TAPE is full", x.count(5), 120);
        x.tear();
        Check.due("39: THE TAPE is full", x.count(5), 120);
    }

    private static void sheetsAreNotKept() {
        TwoWheel x = Check.pottery("boy;boy");
        Check.sheet(x, 0, 8, 5, 6);
        Check.sheet(x, 1, 8, 7);
        x.image();
        x.write(0, 1, 9);
        x.sheet(1, 0, 0);
        x.sheet(2, 16, 40);
        x.undo();
        Check.due("37: a number stays as it is", x.load(0), 2);
        Check.due("37: a number stays as it is", x.of(1, 2), 9);
        Check.due("37: MISSING", x.judge(1), Check.MISSING);
        Check.due("37: forty", x.write(2, 39, 1), 1);
    }

    private static void latestIsKept() {
        TwoWheel x = new TwoWheel();
        x.image();
        x.go(3);
        x.image();
        x.go(4);
        Check.due("38: the latest", x.undo(), 3);
        x.go(5);
        Check.due("38: which stays", x.undo(), 3);
        Check.due("38: at once", x.undo(), 3);
        x.go(2);
        x.image();
        Check.due("38: a later one", x.undo(), 5);
        x.tear();
        Check.due("39: none but the latest was kept", x.undo(), Check.NONE);
        Check.due("39: DAY", x.now(0), 5);
    }

    private static void undo() {
        Edges.refused("38: NONE at first", Edges::fresh, x -> x.undo(), Check.NONE);
        Edges.refused("38: NONE behind tear()", EdgesImagesTest::torn, x -> x.undo(), Check.NONE);
        Edges.refused("38: NONE, full", Edges::sevenOfEight, x -> x.undo(), Check.NONE);
        TwoWheel x = new TwoWheel();
        x.image();
        x.go(60);
        Check.due("38: DAY 0", x.undo(), 0);
        x.go(60);
        x.image();
        x.go(60);
        Check.due("38: DAY 60", x.undo(), 60);
    }

    private static TwoWheel torn() {
        TwoWheel x = Edges.busy();
        x.tear();
        return x;
    }

    private static void tear() {
        TwoWheel x = new TwoWheel();
        Check.due("39: nothing was kept", x.tear(), 0);
        Check.due("39: nothing was kept", x.tear(), 0);
        x.image();
        x.image();
        Check.due("39: something was", x.tear(), 1);
        Check.due("39: nothing is", x.tear(), 0);
        Check.due("38: NONE", x.undo(), Check.NONE);
        x.image();
        Check.due("38: a new one", x.undo(), 0);
        Check.due("39: something was", x.tear(), 1);
        Check.due("39: none of these is a finding", x.status(-1), 1);
        Edges.asked("39: nothing changes, if nothing was kept", EdgesImagesTest::torn, y -> y.tear(), 0);
    }

    private static void count() {
        Edges.range("40: what", Edges::busy, (x, v) -> x.count(v), 0, 7);
        Edges.range("40: what, nobody there", Edges::fresh, (x, v) -> x.count(v), 0, 7);
        Edges.asked("40: nothing changes", Edges::busy, x -> x.count(1), 4);
    }

    private static void countOfEmptyAndFull() {
        int[] first = {0, 0, 0, 0, 0, 0, 1, 0};
        for (int what = 0; what <= 7; what++) {
            int w = what;
            Edges.asked("40: at first, " + w, Edges::fresh, x -> x.count(w), first[w]);
        }
        TwoWheel x = Edges.full();
        Check.due("40: eight", x.count(1), 8);
        for (int p = 0; p < 8; p++) {
            x.change(p, 5, 9999);
        }
        Check.due("40: FLOPS of all together", x.count(4), 8 * 9999);
        Check.due("11: FLOPS of all together", x.now(6), 8 * 9999);
        for (int p = 0; p < 8; p++) {
            x.change(p, 1, 99);
        }
        Check.due("11: HEAT of all together", x.now(4), 8 * 99);
        for (int spot = 0; spot < 10; spot++) {
            x.hold(spot, 0);
        }
        Check.due("40: ten SPOTS, of one", x.count(7), 10);
        Check.feed(x, " ".repeat(120));
        Check.due("40: 120 bytes", x.count(5), 120);
        x.seed(Integer.MIN_VALUE);
        Check.due("40: z", x.count(6), Integer.MIN_VALUE);
        x.seed(-1000001);
        Check.due("40: z that is as a finding", x.count(6), -1000001);
        Check.due("40: which it isn't", x.status(-1), 0);
    }

    private static void status() {
        TwoWheel x = Edges.full();
        x.hold(1, 0);
        Edges.Call[] calls = {y -> y.clay(0), y -> y.potter(0, 0), y -> y.as(1, 6), y -> y.next(1), null, y -> y.load(0), y -> y.sheet(0, 8, -1)};
        for (int which = 0; which <= 6; which++) {
            Check.due("41: none at first, " + which, x.status(which), 0);
        }
        int all = 0;
        for (int which = 0; which <= 6; which++) {
            for (int times = 1; times <= 3 && calls[which] != null; times++) {
                all++;
                Check.due("41: finding " + which, calls[which].ask(x), Check.BEYOND - which);
                Check.due("41: " + which + " told " + times + " times", x.status(which), times);
                Check.due("41: all", x.status(-1), all);
            }
        }
        for (int which = 0; which <= 6; which++) {
            Check.due("41: each by itself, " + which, x.status(which), calls[which] == null ? 0 : 3);
        }
    }

    private static void statusOfOthers() {
        Edges.range("41: which", Edges::busy, (x, v) -> x.status(v), -1, 6);
        TwoWheel x = new TwoWheel();
        Check.due("41: status(7)", x.status(7), Check.BEYOND);
        Check.due("41: counted from then on", x.status(0), 1);
        Check.due("41: status(-2)", x.status(-2), Check.BEYOND);
        Check.due("41: counted from then on", x.status(0), 2);
        Check.due("41: all", x.status(-1), 2);
        for (int which = 1; which <= 6; which++) {
            Check.due("41: no other one", x.status(which), 0);
        }
    }

    private static void statusIsNotTakenBack() {
        TwoWheel x = new TwoWheel();
        x.clay(0);
        x.image();
        x.clay(0);
        x.load(0);
        x.undo();
        Check.due("41: undo() takes none back", x.status(0), 2);
        Check.due("41: undo() takes none back", x.status(5), 1);
        Check.due("41: undo() takes none back", x.status(-1), 3);
        x.tear();
        x.undo();
        Check.due("41: a refused undo() counts", x.status(3), 1);
        x.wipe();
        Check.due("41: tear(), wipe() take none back", x.status(-1), 4);
    }

    private static void whatIsNoFinding() {
        TwoWheel x = new TwoWheel();
        x.seed(-1000001);
        x.seed(-1000007);
        x.count(6);
        x.now(5);
        x.text();
        Check.text(x, "boy heat 100", -10);
        x.tear();
        x.potter(0, 0);
        x.potter(6, 99);
        x.two(0, 1, 2);
        x.of(0, 7);
        Check.due("41: none of these is a finding", x.status(-1), 0);
    }

    /** As many as an object is promised calls for. */
    private static void manyFindings() {
        TwoWheel x = new TwoWheel();
        for (int i = 0; i < 511; i++) {
            x.listed(6);
        }
        Check.due("41: 511 of 512 calls", x.status(0), 511);
    }
}
