/** Promises 37 to 41: images, counts, findings. */
public final class ImagesTest {
    public static void main(String[] args) {
        imageKeepsAll();
        tapeAndSheetsStay();
        latest();
        count();
        status();
        findingsChangeNothing();
        Check.end();
    }

    private static void imageKeepsAll() {
        TwoWheel x = Check.pottery("husband heat 40;son heat 20", "pair 2 1 0;rift 0 1 70;clay 9");
        x.hold(4, 1);
        x.seed(55);
        x.go(15);
        int[] were = state(x);
        Check.due("37: image", x.image(), 1);
        x.potter(5, 5);
        x.change(0, 0, 6);
        x.change(0, 2, 77);
        x.change(1, 5, 4);
        x.rift(0, 1, 3);
        x.rift(0, 2, 3);
        x.pair(0, 2, 1);
        x.hold(5, 2);
        x.hold(4, -1);
        x.market(7);
        x.clay(2);
        x.go(30);
        Check.due("38: day", x.undo(), 15);
        dueState("38: as it was", x, were);
        Check.due("38: spot 4", x.as(4, 2), 1);
        Check.due("38: spot 5", x.as(5, 0), Check.MISSING);
        Check.due("38: the next one", x.potter(0, 1), 2);
        Check.due("38: has a rift as at first", x.two(0, 2, 0), 20);
        x.go(3);
        Check.due("38: it stays", x.undo(), 15);
        dueState("38: as it was", x, were);
        x.go(1);
        Check.due("39: tear", x.tear(), 1);
        Check.due("39: none is left", x.tear(), 0);
        Check.due("38: NONE", x.undo(), Check.NONE);
        Check.due("38: a finding changes nothing", x.now(0), 16);
    }

    private static int[] state(TwoWheel x) {
        int[] state = new int[40];
        int n = 0;
        for (int what = 0; what < 8; what++) {
            state[n++] = x.now(what);
        }
        for (int what : new int[] {1, 6, 7}) {
            state[n++] = x.count(what);
        }
        for (int i = 0; i < 6; i++) {
            state[n++] = x.listed(i);
        }
        for (int what = 0; what < 10; what++) {
            state[n++] = x.of(0, what);
            state[n++] = x.of(1, what);
        }
        state[n++] = x.two(0, 1, 0);
        state[n++] = x.two(0, 1, 1);
        return state;
    }

    private static void dueState(String name, TwoWheel x, int[] want) {
        int[] got = state(x);
        for (int i = 0; i < got.length; i++) {
            Check.due(name + ", " + i, got[i], want[i]);
        }
    }

    private static void tapeAndSheetsStay() {
        TwoWheel x = Check.pottery("boy");
        Check.sheet(x, 0, 8, 3);
        Check.feed(x, "clay");
        x.image();
        Check.feed(x, " 7");
        x.write(0, 0, 4);
        x.sheet(1, 8, 1);
        x.clay(1);
        x.undo();
        Check.due("37: the tape is not kept", x.count(5), 6);
        Check.due("37: sheets are not kept", x.load(0), 1);
        Check.due("37: sheets are not kept", x.of(0, 2), 4);
        Check.due("37: sheets are not kept", x.load(1), 1);
        Check.due("37: the tape is not kept", x.text(), 1);
        Check.due("37: clay", x.clay(1), 7);
    }

    private static void latest() {
        TwoWheel x = new TwoWheel();
        x.image();
        x.potter(0, 1);
        x.go(2);
        x.image();
        x.potter(0, 1);
        x.go(1);
        Check.due("38: the latest", x.undo(), 2);
        Check.due("38: potters", x.count(1), 1);
        Check.due("38: again", x.undo(), 2);
        Check.due("39: tear", x.tear(), 1);
        Check.due("39: no earlier one is left", x.undo(), Check.NONE);
        x.image();
        Check.due("37: a new one", x.undo(), 2);
        x = Check.pottery("boy;boy;boy;boy;boy;boy;boy;boy", "rift 6 7 66;rift 5 7 57");
        x.image();
        x.rift(6, 7, 1);
        x.rift(5, 7, 1);
        x.change(7, 5, 1);
        x.undo();
        Check.due("38: 6 and 7", x.two(6, 7, 0), 66);
        Check.due("38: 5 and 7", x.two(7, 5, 0), 57);
        Check.due("38: flops of 7", x.of(7, 5), 0);
    }

    private static void count() {
        TwoWheel x = Check.pottery("stranger;stranger;boy", "pair 1 0 2;rift 0 2 0");
        x.go(2);
        x.hold(0, 0);
        x.hold(1, 0);
        x.seed(9);
        x.feed(0, 3);
        int[] want = {2, 3, 10, 1, 2, 3, 9, 2};
        for (int what = 0; what < 8; what++) {
            Check.due("40: count(" + what + ")", x.count(what), want[what]);
        }
        Check.beyond("40: count(-1)", x.count(-1));
        Check.beyond("40: count(8)", x.count(8));
    }

    private static void status() {
        TwoWheel x = Check.pottery("boy;boy;boy;boy;boy;boy;boy;boy");
        x.clay(0);
        x.clay(21);
        x.potter(0, 0);
        x.hold(0, 0);
        x.as(0, 1);
        x.as(0, 3);
        x.as(0, 4);
        x.undo();
        x.as(1, 0);
        x.sheet(0, 8, -1);
        x.sheet(0, 8, -1);
        int[] want = {2, 1, 3, 1, 0, 1, 2};
        for (int which = 0; which <= 6; which++) {
            Check.due("41: status(" + which + ")", x.status(which), want[which]);
        }
        Check.due("41: all", x.status(-1), 10);
        Check.due("41: asking counts nothing", x.status(-1), 10);
        Check.beyond("41: status(7)", x.status(7));
        Check.beyond("41: status(-2)", x.status(-2));
        Check.due("41: these are counted from then on", x.status(0), 4);
        Check.due("41: all", x.status(-1), 12);
        x.image();
        x.go(0);
        x.undo();
        Check.due("41: undo() takes none back", x.status(-1), 13);
        Check.due("41: odds() counts, too", x.odds(0, 0, 0, 0), Check.BEYOND);
        Check.due("41: all", x.status(-1), 14);
    }

    private static void findingsChangeNothing() {
        TwoWheel x = Check.pottery("husband heat 40;son heat 20", "pair 2 1 0;rift 0 1 70;clay 9");
        x.go(5);
        int[] were = state(x);
        x.potter(9, 9);
        x.change(0, 0, 7);
        x.change(0, 6, 7);
        x.rift(0, 0, 7);
        x.rift(0, 1, 100);
        x.pair(0, 0, 9);
        x.go(0);
        x.market(0);
        x.hold(3, 5);
        x.load(0);
        x.peace(0, 1, 100);
        x.next(1);
        dueState("a finding changes nothing", x, were);
    }
}
