/** Promises 27 to 29: the tape and what is read from it. */
public final class TextsTest {
    public static void main(String[] args) {
        feed();
        wipe();
        items();
        itemByItem();
        tokens();
        faults();
        faultChangesNothing();
        ninthPotter();
        longTexts();
        Check.end();
    }

    private static void feed() {
        TwoWheel x = new TwoWheel();
        Check.beyond("27: n 0", x.feed(0, 0));
        Check.beyond("27: n 5", x.feed(0, 5));
        Check.beyond("27: n -1", x.feed(0, -1));
        Check.due("27: nothing came", x.count(5), 0);
        Check.due("27: the highest first", x.feed('c' << 24 | 'l' << 16 | 'a' << 8 | 'y', 4), 4);
        Check.due("27: the lowest two", x.feed('x' << 24 | 'x' << 16 | ' ' << 8 | '1', 2), 6);
        Check.due("27: the lowest one", x.feed(-256 | '9', 1), 7);
        Check.due("27: how many", x.count(5), 7);
        Check.due("27: as fed", x.text(), 1);
        Check.due("27: as fed", x.clay(10), 19);
        for (int i = 1; i <= 29; i++) {
            Check.due("27: four more", x.feed(0, 4), 4 * i);
        }
        Check.due("27: 118", x.feed(0, 2), 118);
        Check.due("27: FULL", x.feed(0, 3), Check.FULL);
        Check.due("27: a finding changes nothing", x.count(5), 118);
        Check.due("27: 120", x.feed(0, 2), 120);
        Check.due("27: FULL", x.feed(0, 1), Check.FULL);
        Check.beyond("27: BEYOND is asked ahead of FULL", x.feed(0, 5));
        Check.due("27: status", x.status(1), 2);
    }

    private static void wipe() {
        TwoWheel x = new TwoWheel();
        Check.due("28: empty", x.wipe(), 0);
        Check.feed(x, "clay 4");
        Check.due("28: had", x.wipe(), 6);
        Check.due("28: is empty", x.count(5), 0);
        Check.due("28: is empty", x.text(), -1);
        Check.due("28: nothing was read", x.clay(10), 10);
    }

    private static void duePotter(TwoWheel x, int p, int... want) {
        for (int what = 0; what < want.length; what++) {
            Check.due("29: " + what + " of " + p, x.of(p, what), want[what]);
        }
    }

    private static void items() {
        TwoWheel x = new TwoWheel();
        Check.text(x, "potter;husband;son;father;partner;stranger;boy", 7);
        for (int kind = 0; kind < 7; kind++) {
            duePotter(x, kind, kind, 30, 20, 0, 0, 0);
        }
        Check.due("29: the tape is empty", x.count(5), 0);
        x = new TwoWheel();
        Check.text(x, "boy heat 0;boy care 99;boy years 7", 3);
        Check.text(x, "son heat 1 care 2 years 3;father heat 4 years 5;partner care 0 years 99;husband heat 99 care 98", 4);
        duePotter(x, 0, 6, 0, 20, 0, 0, 0);
        duePotter(x, 1, 6, 30, 99, 0, 0, 0);
        duePotter(x, 2, 6, 30, 20, 7, 0, 0);
        duePotter(x, 3, 2, 1, 2, 3, 0, 0);
        duePotter(x, 4, 3, 4, 20, 5, 0, 0);
        duePotter(x, 5, 4, 30, 0, 99, 0, 0);
        duePotter(x, 6, 1, 99, 98, 0, 0, 0);
        Check.text(x, "rift 6 0 99;rift 0 1 0;pair 5 7 0;pair 0 0 0;clay 20", 5);
        Check.due("29: rift", x.two(0, 6, 0), 99);
        Check.due("29: rift", x.two(1, 0, 0), 0);
        Check.due("29: other rift", x.two(1, 6, 0), 20);
        Check.due("29: pair", x.listed(5), 70);
        Check.due("29: pair", x.listed(0), 0);
        Check.due("29: other pair", x.listed(1), 1);
        Check.due("29: clay", x.clay(1), 20);
        Check.text(x, "clay 1", 1);
        Check.due("29: clay", x.clay(3), 1);
        Check.text(x, "pair 5 7 7;pair 4 0 7;pair 3 7 0", 3);
        Check.due("29: pair", x.listed(5), 77);
        Check.due("29: pair", x.listed(4), 7);
        Check.due("29: pair", x.listed(3), 70);
    }

    private static void itemByItem() {
        TwoWheel x = new TwoWheel();
        Check.text(x, "clay 3;clay 5;pair 0 1 2;pair 0 3 4;boy;son;rift 0 1 7;rift 1 0 8;boy;rift 2 0 9", 10);
        Check.due("29: the latter clay", x.clay(1), 5);
        Check.due("29: the latter pair", x.listed(0), 34);
        Check.due("29: the latter rift", x.two(0, 1, 0), 8);
        Check.due("29: with one told just now", x.two(0, 2, 0), 9);
        Check.due("29: three", x.count(1), 3);
    }

    private static void tokens() {
        TwoWheel x = new TwoWheel();
        Check.text(x, "  clay   7  ", 1);
        Check.due("29: blanks", x.clay(1), 7);
        Check.text(x, "clay007;clay 0000000000000000000000012 ; boy heat0care01years002", 3);
        Check.due("29: noughts ahead", x.clay(1), 12);
        duePotter(x, 0, 6, 0, 1, 2, 0, 0);
        Check.text(x, "cl ay 1", -1);
        Check.text(x, "clay 1 2", -8);
        Check.text(x, "clay12;pair012", -12);
        Check.text(x, "pair0 1 2;clay3", 2);
        Check.text(x, "boyheat 1", -1);
        Check.text(x, "clayclay", -1);
        Check.text(x, "Clay 1", -1);
        Check.text(x, "clay\t1", -5);
        Check.text(x, "clay 1\n", -7);
        Check.text(x, "clay 4294967297", -6);
        Check.text(x, "clay 1000000000000000000001", -6);
        Check.text(x, "clay -1", -6);
        Check.text(x, "clay \u00e1", -6);
        Check.text(x, "clay 1\u00bb", -7);
    }

    private static void faults() {
        String[] texts = {
            "", "   ", ";", " ;", "7", "wife", "heat 3", "care 3", "years 3", "#",
            "clay", "clay ", "clay ;", "clay boy", "clay 0", "clay 21", "clay 999", "clay 1000", "clay 1;", "clay 1; ",
            "clay 1;;", "clay 1 clay 1", "clay 1 ; wife", "clay #",
            "pair", "pair 6 0 0", "pair 0 8 0", "pair 0 0 8", "pair 0 0", "pair 0 ; 0", "pair 0 0 0 0",
            "rift", "rift 0 1 1", "boy;rift 0 0 1", "boy;rift 0 1 1", "boy;rift 1 0 1", "boy;boy;rift 0 1 100",
            "boy;boy;rift 1 1 1", "boy;boy;rift 1", "boy;boy;rift ; 1", "boy;boy;rift 0 ;", "boy;rift 0 1 1;boy",
            "boy boy", "boy 1", "boy heat", "boy heat ;", "boy heat heat 1", "boy heat 100", "boy heat 1 heat 2", "boy heat 1 2",
            "boy care", "boy care 100", "boy care 1 heat 1", "boy care 1 care 1", "boy heat care 1",
            "boy years", "boy years 100", "boy years 1 care 1", "boy years 1 heat 1", "boy years 1 years 1", "boy years 1 1",
            "boy heat 1 care 2 years 3 4", "boy heat 1 care 2 years 3 ;", "boy rift 0 1 1", "boys", "bo",
            "boy;boy;rift 1 0", "boy;boy;rift", "pair 0", "pair", "boz", "zoy", "bzy", "boyz", "boya", "boy`", "boy{",
            "clay 1/", "clay 1:", "clay 19 9", "boy:", "aclay 1", "years", "boy heat 1 care", "boy heat 1 years", "boy;pair 0 0 8",
        };
        int[] places = {
            0, 3, 0, 1, 0, 0, 0, 0, 0, 0,
            4, 5, 5, 5, 5, 5, 5, 5, 7, 8,
            7, 7, 9, 5,
            4, 5, 7, 9, 8, 7, 11,
            4, 5, 11, 11, 9, 17,
            15, 14, 13, 15, 11,
            4, 4, 8, 9, 9, 9, 11, 11,
            8, 9, 11, 11, 9,
            9, 10, 12, 12, 12, 12,
            26, 27, 4, 0, 0,
            16, 12, 6, 4, 0, 0, 0, 0, 0, 3, 3,
            6, 6, 8, 3, 0, 0, 15, 16, 13,
        };
        Check.due("as many places as texts", places.length, texts.length);
        for (int i = 0; i < texts.length; i++) {
            Check.text(new TwoWheel(), texts[i], -1 - places[i]);
        }
    }

    private static void faultChangesNothing() {
        TwoWheel x = Check.pottery("boy;boy");
        Check.text(x, "clay 3;pair 0 5 5;rift 0 1 5;boy heat 5;hold", -41);
        Check.due("29: clay", x.clay(10), 10);
        Check.due("29: pair", x.listed(0), 1);
        Check.due("29: rift", x.two(0, 1, 0), 20);
        Check.due("29: potters", x.count(1), 2);
        Check.due("29: the tape is empty", x.count(5), 0);
        Check.due("29: no finding", x.status(-1), 0);
        Check.due("29: the next has its own", x.potter(1, 60), 2);
        Check.due("29: heat", x.of(2, 1), 60);
        Check.due("29: rift with it", x.two(0, 2, 0), 20);
    }

    private static void ninthPotter() {
        TwoWheel x = Check.pottery("boy;boy;boy;boy;boy;boy;boy");
        Check.text(x, "son ; son heat 100", -7);
        Check.due("29: seven", x.count(1), 7);
        Check.text(x, "clay 2;son;clay 1", 3);
        Check.due("29: eight", x.count(1), 8);
        Check.text(x, "clay 5; boy", -9);
        Check.text(x, "rift 7 6 1", 1);
        Check.text(x, "rift 7 8 1", -8);
    }

    private static void longTexts() {
        TwoWheel x = new TwoWheel();
        StringBuilder many = new StringBuilder("clay 11");
        for (int i = 0; i < 16; i++) {
            many.append(";clay ").append(i % 9 + 1);
        }
        Check.due("119 bytes", many.length(), 119);
        Check.text(x, many.toString(), 17);
        Check.due("29: the last", x.clay(1), 7);
        Check.text(x, "clay1;".repeat(19) + "clay 2", 20);
        Check.text(x, "clay1;".repeat(20), -121);
        Check.text(x, ";".repeat(120), -1);
        Check.text(x, "1".repeat(120), -1);
        Check.text(x, "z".repeat(120), -1);
        Check.text(x, " ".repeat(120), -121);
        Check.text(x, " ".repeat(114) + "clay 7", 1);
        Check.text(x, "clay " + "0".repeat(114) + "9", 1);
        Check.due("29: the last", x.clay(1), 9);
    }
}
