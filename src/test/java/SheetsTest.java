/** Promises 30 to 36: spots and sheets. */
public final class SheetsTest {
    public static void main(String[] args) {
        hold();
        asKinds();
        sheet();
        write();
        copy();
        load();
        judge();
        Check.end();
    }

    private static void hold() {
        TwoWheel x = new TwoWheel();
        Check.beyond("30: nobody", x.hold(0, 0));
        Check.due("30: nothing", x.hold(0, -1), 1);
        Check.due("30: spots", x.count(7), 0);
        x.potter(3, 0);
        Check.due("30: the first spot", x.hold(0, 0), 1);
        Check.due("30: the last spot", x.hold(9, 0), 1);
        Check.due("30: spots", x.count(7), 2);
        Check.beyond("30: spot -1", x.hold(-1, 0));
        Check.beyond("30: spot 10", x.hold(10, 0));
        Check.beyond("30: potter -2", x.hold(9, -2));
        Check.beyond("30: potter 1", x.hold(9, 1));
        Check.due("30: it holds", x.as(9, 0), 0);
        Check.due("30: no more", x.hold(9, -1), 1);
        Check.due("30: MISSING", x.as(9, 0), Check.MISSING);
        Check.due("30: spots", x.count(7), 1);
    }

    private static void asKinds() {
        boolean[][] is = new boolean[7][7];
        int[][] above = {{0}, {1, 0}, {2, 0}, {3, 1, 0}, {4, 3, 1, 0}, {5, 0}, {6, 2, 0}};
        TwoWheel x = new TwoWheel();
        for (int kind = 0; kind < 7; kind++) {
            x.potter(kind, 0);
            x.hold(9 - kind, kind);
            for (int a : above[kind]) {
                is[kind][a] = true;
            }
        }
        for (int kind = 0; kind < 7; kind++) {
            for (int asked = 0; asked < 7; asked++) {
                Check.due("31: " + kind + " as " + asked, x.as(9 - kind, asked), is[kind][asked] ? kind : Check.KIND);
            }
        }
        x.change(6, 0, 4);
        Check.due("31: as it is now", x.as(3, 3), 6);
        Check.due("31: not as it was", x.as(3, 2), Check.KIND);
        Check.beyond("31: spot -1", x.as(-1, 0));
        Check.beyond("31: spot 10", x.as(10, 0));
        Check.beyond("31: kind -1, ahead of MISSING", x.as(0, -1));
        Check.beyond("31: kind 7, ahead of MISSING", x.as(0, 7));
        Check.due("31: MISSING", x.as(0, 0), Check.MISSING);
    }

    private static void sheet() {
        TwoWheel x = new TwoWheel();
        Check.beyond("32: s -1", x.sheet(-1, 8, 1));
        Check.beyond("32: s 4", x.sheet(4, 8, 1));
        Check.beyond("32: no such sheet, ahead of SIZE", x.sheet(4, 8, -1));
        for (int bits : new int[] {-8, 1, 7, 9, 15, 24, 31, 33, 64}) {
            Check.beyond("32: bits " + bits, x.sheet(0, bits, 1));
            Check.beyond("32: bits " + bits + ", ahead of SIZE", x.sheet(0, bits, -1));
        }
        for (int bits : new int[] {0, 8, 16, 32}) {
            Check.due("32: n -1, bits " + bits, x.sheet(0, bits, -1), Check.SIZE);
            Check.due("32: n least", x.sheet(0, bits, Integer.MIN_VALUE), Check.SIZE);
            Check.beyond("32: n 41, bits " + bits, x.sheet(0, bits, 41));
            Check.beyond("32: n most", x.sheet(0, bits, Integer.MAX_VALUE));
        }
        Check.due("32: a finding changes nothing", x.judge(0), Check.MISSING);
        for (int s = 0; s < 4; s++) {
            Check.due("32: n 40", x.sheet(s, 8 << s % 3, 40), 40);
            Check.due("32: the last number", x.write(s, 39, 5), 1);
            Check.beyond("32: none behind it", x.write(s, 40, 5));
        }
        x.write(1, 0, 7);
        Check.due("32: anew", x.sheet(1, 16, 40), 40);
        Check.sheet(x, 2, 16, 0);
        x.potter(0, 0);
        Check.due("32: all are 0", x.judge(1), 2);
        x.write(1, 0, 7);
        Check.due("32: fewer", x.sheet(1, 16, 1), 1);
        Check.due("32: all are 0", x.judge(1), 0);
        Check.beyond("32: fewer", x.write(1, 1, 1));
        Check.due("32: none", x.sheet(1, 32, 0), 0);
        Check.due("32: it isn't MISSING", x.judge(1), 0);
        Check.beyond("32: it has none", x.write(1, 0, 1));
        Check.due("32: MISSING", x.sheet(1, 0, 7), 0);
        Check.due("32: MISSING", x.write(1, 0, 1), Check.MISSING);
        Check.due("32: others stay", x.write(2, 0, 1), 1);
    }

    /** What a number became is asked by judge(), as THROWN of potter 0. */
    private static void dueNumber(TwoWheel x, int s, int v, int want) {
        x.write(s, 0, v);
        x.change(0, 4, want);
        Check.due("33: " + v + " becomes " + want, x.judge(s), 0);
    }

    private static void write() {
        TwoWheel x = Check.pottery("boy");
        Check.beyond("33: s -1", x.write(-1, 0, 0));
        Check.beyond("33: s 4", x.write(4, 0, 0));
        Check.due("33: MISSING", x.write(0, 0, 0), Check.MISSING);
        Check.due("33: MISSING is asked ahead of the number", x.write(0, -1, 0), Check.MISSING);
        x.sheet(0, 8, 1);
        x.sheet(1, 16, 1);
        x.sheet(2, 32, 1);
        Check.beyond("33: i -1", x.write(0, -1, 0));
        Check.beyond("33: i 1", x.write(0, 1, 0));
        dueNumber(x, 0, 127, 127);
        dueNumber(x, 0, 256 + 3, 3);
        dueNumber(x, 0, -256, 0);
        dueNumber(x, 1, 9999, 9999);
        dueNumber(x, 1, 65536 + 300, 300);
        dueNumber(x, 2, 9999, 9999);
        x.change(0, 4, 200);
        x.write(0, 0, 200);
        Check.due("33: 8 bits tell -128 to 127", x.judge(0), 1);
        x.write(2, 0, 65536 + 200);
        Check.due("33: 32 bits are all kept", x.judge(2), 1);
        x.write(0, 0, 255);
        Check.due("33: 255 is -1, any", x.kinds(0, 0), 127);
        x.write(1, 0, 65535);
        Check.due("33: 65535 is -1, any", x.kinds(1, 0), 127);
        x.write(1, 0, 255);
        Check.due("33: 255 is 255 in 16 bits", x.kinds(1, 0), 0);
        x.write(2, 0, 65535);
        Check.due("33: 65535 is 65535 in 32 bits", x.kinds(2, 0), 0);
    }

    /** Numbers of a sheet are asked by load(), as CARE of potters 0, 1, .. */
    private static void dueCares(TwoWheel x, int s, int... want) {
        x.load(s);
        for (int p = 0; p < want.length; p++) {
            Check.due("34: number " + p + " of sheet " + s, x.of(p, 2), want[p]);
        }
    }

    private static void copy() {
        TwoWheel x = Check.pottery("boy;boy;boy;boy;boy;boy");
        Check.sheet(x, 0, 8, 1, 2, 3, 4, 5);
        Check.sheet(x, 1, 8, 11, 12, 13);
        Check.sheet(x, 2, 16, 21);
        Check.due("34: to another", x.copy(0, 3, 1, 0, 2), 2);
        dueCares(x, 1, 4, 5, 13);
        dueCares(x, 0, 1, 2, 3, 4, 5);
        Check.due("34: to the right, as they were", x.copy(0, 0, 0, 1, 4), 4);
        dueCares(x, 0, 1, 1, 2, 3, 4);
        Check.due("34: to the left, as they were", x.copy(0, 1, 0, 0, 4), 4);
        dueCares(x, 0, 1, 2, 3, 4, 4);
        Check.due("34: none, from the end", x.copy(0, 5, 1, 3, 0), 0);
        Check.due("34: all", x.copy(1, 0, 0, 2, 3), 3);
        dueCares(x, 0, 1, 2, 4, 5, 13);
        Check.beyond("34: s -1", x.copy(-1, 0, 3, 0, 0));
        Check.beyond("34: s 4", x.copy(4, 0, 3, 0, 0));
        Check.beyond("34: t -1, ahead of MISSING", x.copy(3, 0, -1, 0, 0));
        Check.beyond("34: t 4, ahead of MISSING", x.copy(3, 0, 4, 0, 0));
        Check.due("34: s is MISSING, ahead of KIND", x.copy(3, 0, 2, 0, -1), Check.MISSING);
        Check.due("34: t is MISSING, ahead of KIND", x.copy(2, 0, 3, 0, -1), Check.MISSING);
        Check.due("34: KIND, ahead of BEYOND", x.copy(0, 0, 2, 0, -1), Check.KIND);
        Check.due("34: KIND", x.copy(2, 0, 0, 0, 1), Check.KIND);
        int most = Integer.MAX_VALUE;
        int[][] beyond = {{-1, 0, 1}, {0, -1, 1}, {0, 0, -1}, {0, 0, 4}, {3, 0, 3}, {0, 1, 3}, {6, 0, 0}, {0, 4, 0},
            {most, 0, 1}, {0, most, 1}, {1, 1, most}, {most, most, most}, {Integer.MIN_VALUE, 0, 1}, {5, 0, 1}};
        for (int[] b : beyond) {
            Check.beyond("34: from " + b[0] + " to " + b[1] + " n " + b[2], x.copy(0, b[0], 1, b[1], b[2]));
        }
        dueCares(x, 1, 4, 5, 13);
    }

    private static void load() {
        TwoWheel x = Check.pottery("boy;boy;boy");
        Check.beyond("35: s -1", x.load(-1));
        Check.beyond("35: s 4", x.load(4));
        Check.due("35: MISSING", x.load(0), Check.MISSING);
        Check.sheet(x, 0, 8, 0, 99);
        Check.due("35: two came", x.load(0), 2);
        dueCares(x, 0, 0, 99, 20);
        Check.sheet(x, 1, 16, 5, 100, 7);
        Check.due("35: it ends at 100", x.load(1), 1);
        dueCares(x, 1, 5, 99, 20);
        Check.sheet(x, 1, 32, 6, 7, -1);
        Check.due("35: it ends at -1", x.load(1), 2);
        dueCares(x, 1, 6, 7, 20);
        Check.sheet(x, 1, 32, 1, 2, 3, 4, 100);
        Check.due("35: it ends where nobody is", x.load(1), 3);
        dueCares(x, 1, 1, 2, 3);
        Check.sheet(x, 3, 8, 44);
        Check.due("35: the last sheet", x.load(3), 1);
        Check.due("35: care", x.of(0, 2), 44);
        x.sheet(2, 8, 0);
        Check.due("35: none", x.load(2), 0);
    }

    private static void judge() {
        TwoWheel x = Check.pottery("boy;boy;boy");
        Check.beyond("36: s -1", x.judge(-1));
        Check.beyond("36: s 4", x.judge(4));
        Check.due("36: MISSING", x.judge(3), Check.MISSING);
        x.change(0, 4, 3);
        x.change(1, 4, 9999);
        Check.sheet(x, 0, 16, 3, 9999, 0);
        Check.due("36: so", x.judge(0), 0);
        Check.sheet(x, 0, 16, 3);
        Check.due("36: fewer", x.judge(0), 0);
        Check.sheet(x, 0, 16);
        Check.due("36: none", x.judge(0), 0);
        Check.sheet(x, 0, 16, 4, 9999, 0);
        Check.due("36: the first isn't", x.judge(0), 1);
        Check.sheet(x, 0, 16, 3, -1, 1);
        Check.due("36: the second isn't", x.judge(0), 2);
        Check.sheet(x, 0, 16, 3, 9999, 0, 0);
        Check.due("36: the fourth is of nobody", x.judge(0), 4);
        Check.due("36: nothing changes", x.of(0, 4), 3);
        Check.sheet(x, 3, 32, 3, 9999, 1);
        Check.due("36: the last sheet", x.judge(3), 3);
    }
}
