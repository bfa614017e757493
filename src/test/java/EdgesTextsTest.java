/** Edges of promises 27 to 29, and of the third paragraph of the terms; ^ marks where a text has its fault. */
public final class EdgesTextsTest {
    public static void main(String[] args) {
        feed();
        feedBytes();
        feedUntilFull();
        wipe();
        emptyText();
        fullTape();
        words();
        numbers();
        longNumbers();
        signs();
        blanks();
        bytesThatBeginNoToken();
        potters();
        traitsOfPotters();
        orderOfTraits();
        ninthPotter();
        rifts();
        riftsOfThoseThere();
        pairs();
        clay();
        items();
        endsTooEarly();
        Check.end();
    }

    private static TwoWheel withTape(Edges.Maker maker, String text) {
        TwoWheel x = maker.make();
        x.wipe();
        Check.feed(x, text);
        Check.due("27: \"" + text + "\" is on THE TAPE", x.count(5), text.length());
        return x;
    }

    /** With a fault nothing changes but that the tape is empty, and none is a finding. */
    private static void dueFault(Edges.Maker maker, String marked) {
        int place = marked.indexOf('^');
        String text = marked.substring(0, place) + marked.substring(place + 1);
        String name = "29: \"" + marked + "\"";
        TwoWheel asked = withTape(maker, text);
        TwoWheel still = withTape(maker, text);
        Check.due(name, asked.text(), -1 - place);
        Check.due(name + ", THE TAPE is empty", asked.count(5), 0);
        still.wipe();
        Edges.dueCounted(name, asked, still, 0);
        Edges.dueAlike(name, asked, still);
    }

    private static void dueFaults(String... marked) {
        for (String text : marked) {
            dueFault(Edges::busy, text);
        }
    }

    /** On a pottery of no potters. */
    private static TwoWheel dueItems(String text, int items) {
        TwoWheel x = withTape(Edges::fresh, text);
        Check.due("29: \"" + text + "\"", x.text(), items);
        Check.due("29: \"" + text + "\", THE TAPE is empty", x.count(5), 0);
        Check.due("29: \"" + text + "\" is no finding", x.status(-1), 0);
        return x;
    }

    private static void dueClay(String text, int clay) {
        Check.due("29: CLAY by \"" + text + "\"", dueItems(text, 1).clay(1), clay);
    }

    private static void feed() {
        Edges.range("27: n", Edges::busy, (x, v) -> x.feed(0x20202020, v), 1, 4);
        TwoWheel x = new TwoWheel();
        int has = 0;
        for (int n = 1; n <= 4; n++) {
            has += n;
            Check.due("27: how many behind " + n + " more", x.feed(0, n), has);
        }
    }

    /** The n lowest, the highest of these first; the others don't count. */
    private static void feedBytes() {
        String[] texts = {"7", "17", "y17", "ay17"};
        String[] ahead = {"clay 1", "clay ", "cla", "cl"};
        int bytes = 'a' << 24 | 'y' << 16 | '1' << 8 | '7';
        for (int n = 1; n <= 4; n++) {
            TwoWheel x = withTape(Edges::fresh, ahead[n - 1]);
            Check.due("27: n " + n, x.feed(bytes, n), ahead[n - 1].length() + n);
            Check.due("27: \"" + texts[n - 1] + "\"", x.text(), 1);
            Check.due("27: CLAY", x.clay(1), 17);
        }
        TwoWheel x = withTape(Edges::fresh, "clay 1");
        x.feed(0x80000000 | ' ' << 16 | ' ' << 8 | '9', 3);
        Check.due("27: of a number below 0", x.text(), -9);
        x = new TwoWheel();
        x.feed(-1, 4);
        Check.due("27: bytes of 255 begin no TOKEN", x.text(), -1);
    }

    private static TwoWheel withBytes(int n) {
        return withTape(Edges::busy, " ".repeat(n - 6) + "clay 7");
    }

    private static void feedUntilFull() {
        for (int n = 1; n <= 4; n++) {
            int m = n;
            TwoWheel x = withBytes(120 - m);
            Check.due("27: " + m + " more are 120", x.feed(0, m), 120);
            Edges.refused("27: FULL, " + m + " more are 121", () -> withBytes(121 - m), y -> y.feed(0, m), Check.FULL);
            Edges.refused("27: FULL", () -> withBytes(120), y -> y.feed(0, m), Check.FULL);
        }
        Edges.beyond("27: n 0, ahead of FULL", () -> withBytes(120), y -> y.feed(0, 0));
        Edges.beyond("27: n 5, ahead of FULL", () -> withBytes(120), y -> y.feed(0, 5));
        TwoWheel x = withBytes(119);
        Check.due("27: FULL, 2 more", x.feed(0, 2), Check.FULL);
        Check.due("27: one more", x.feed(' ', 1), 120);
        Check.due("27: all are read", x.text(), 1);
        Check.due("27: there is room again", x.feed(0, 4), 4);
    }

    private static void wipe() {
        TwoWheel x = new TwoWheel();
        Check.due("28: none", x.wipe(), 0);
        x.feed(0, 1);
        Check.due("28: one", x.wipe(), 1);
        Check.due("28: empty", x.count(5), 0);
        x = withBytes(120);
        Check.due("28: 120", x.wipe(), 120);
        Check.due("28: empty", x.count(5), 0);
        Check.due("28: empty", x.wipe(), 0);
        Check.due("28: as at first", x.feed(0, 4), 4);
        Edges.asked("28: nothing changes, if it was empty", Edges::full, y -> y.wipe(), 0);
    }

    private static void emptyText() {
        dueFaults("^", " ^", "    ^");
        TwoWheel x = Edges.busy();
        x.wipe();
        Check.due("29: behind wipe()", x.text(), -1);
        Check.due("29: and again", x.text(), -1);
    }

    private static void fullTape() {
        dueFaults("clay1;".repeat(20) + "^", "^" + ";".repeat(120), " ".repeat(120) + "^",
            "^" + "z".repeat(120), "^" + "1".repeat(120), " ".repeat(119) + "^;", " ".repeat(116) + "clay^",
            "clay 1" + " ".repeat(113) + "^7", "clay " + "^" + "1".repeat(115));
        dueClay(" ".repeat(114) + "clay 7", 7);
        dueClay("clay 7" + " ".repeat(114), 7);
        dueClay("clay " + "0".repeat(114) + "9", 9);
        dueClay("clay" + " ".repeat(115) + "8", 8);
        dueItems("clay1;".repeat(19) + "clay20", 20);
    }

    /** As long as can be: letters a to z alone. */
    private static void words() {
        dueFaults("^wife", "^boys", "^boyz", "^boya", "^zboy", "^bo", "^aboy", "^boyboy", "^boyheat 1", "^clayclay", "^Boy", "^BOY", "^bOy",
            "boy^`", "boy^{", "boy^A", "boy^Z", "boy^@", "boy^[", "^`boy", "^{boy", "^a", "^z", "^bo y", "^heat 1", "^care 1", "^years 1",
            "boy ^heats 1", "boy ^hea 1", "boy ^potter", "clay 1;^heat 1", "^potters", "^husbands", "^sons", "^fathers",
            "^partners", "^strangers", "^rifts 0 1 5", "^pairs 0 0 0", "^clays 1", "^potte", "^husban", "^so", "^fathe", "^partne",
            "^strange", "^rif 0 1 5", "^pai 0 0 0", "^cla 1", "^fbther", "^sxn", "^xon");
    }

    /** As long as can be, and 999 at most; noughts ahead don't count. */
    private static void numbers() {
        dueClay("clay1", 1);
        dueClay("clay20", 20);
        dueClay("clay 01", 1);
        dueClay("clay 0020", 20);
        dueClay("clay 000000000000000000000000000000019", 19);
        dueFaults("clay ^00", "clay ^021", "clay ^999", "clay ^1000", "clay ^0999", "clay ^9999", "clay ^200", "clay 2 ^0", "clay 20 ^0",
            "^1", "^0", "^999", "^1000", "clay 1^/", "clay 1^:", "clay ^/1", "clay ^:1", "clay ^-1", "clay ^+1", "clay 1^.0",
            "clay 1^boy", "clay 1 ^1", "boy ^1", "boy heat 1 ^1");
        Check.due("29: 0 and 9 are digits", dueItems("boy heat 90;boy heat 09", 2).of(0, 1), 90);
    }

    /** What would wrap around into a number that may stand. */
    private static void longNumbers() {
        dueFaults("clay ^2147483647", "clay ^2147483648", "clay ^4294967296", "clay ^4294967297", "clay ^4294967306", "clay ^8589934593",
            "clay ^18446744073709551617", "clay ^1000000000000000000001", "clay ^10000000001", "boy heat ^4294967297",
            "clay ^" + "9".repeat(100));
    }

    private static void signs() {
        dueItems("boy;boy", 2);
        dueItems("boy ; boy", 2);
        dueFaults("^;", "^;boy", "boy;^;boy", "boy;^", "boy;^;", "boy^:boy", "boy^<boy", "boy^,boy", "boy ; ^;",
            "clay ^;", "clay 1;^;", "boy heat ^;", "rift ^;", "rift 0 ^;", "rift 0 1 ^;", "pair ^;", "pair 0 ^;", "pair 0 0 ^;");
    }

    /** Byte 32 alone is a blank. */
    private static void blanks() {
        dueClay(" clay 3", 3);
        dueClay("clay 3 ", 3);
        dueClay("   clay   3   ", 3);
        dueItems("boy heat0care01years002", 1);
        dueItems("boy  heat  0  care  1  years  2  ;  boy", 2);
        dueFaults("clay^\t3", "clay^\n3", "^\tclay 3", "clay 3^\n", "clay 3^\r", "clay^\u00003", "clay 3^\u0000", "clay^\u001f3", "clay^!3",
            "clay^\u00a03", "clay 3 ^\u00a0");
    }

    private static void bytesThatBeginNoToken() {
        for (int b = 0; b < 256; b++) {
            boolean begins = b >= 'a' && b <= 'z' || b >= '0' && b <= '9' || b == ';' || b == ' ';
            if (!begins && b != '^') {
                TwoWheel x = withTape(Edges::fresh, "clay 3 " + (char) b);
                Check.due("29: byte " + b + " behind all", x.text(), -8);
                x = withTape(Edges::fresh, (char) b + "clay 3");
                Check.due("29: byte " + b + " ahead of all", x.text(), -1);
                Check.due("29: nothing changes by byte " + b, x.clay(1), 10);
            }
        }
        dueFaults("boy^\u00e1", "clay 1^\u00b1", "clay 1^\u00bb", "^\u00e2oy", "clay ^\u00b7", "^\u0000", "^\u007f", "^\u0080", "^\u00ff", "^#", "clay ^#", "boy ^#",
            "boy; ^#", "boy heat ^#");
    }

    private static void potters() {
        String[] words = {"potter", "husband", "son", "father", "partner", "stranger", "boy"};
        for (int kind = 0; kind < 7; kind++) {
            TwoWheel x = dueItems(words[kind], 1);
            int[] first = {kind, 30, 20, 0, 0, 0};
            for (int what = 0; what <= 5; what++) {
                Check.due("29: " + words[kind] + ", of() " + what, x.of(0, what), first[what]);
            }
            Check.due("29: one came", x.count(1), 1);
        }
    }

    private static void dueTraits(String text, int heat, int care, int years) {
        TwoWheel x = dueItems(text, 1);
        Check.due("29: HEAT by \"" + text + "\"", x.of(0, 1), heat);
        Check.due("29: CARE by \"" + text + "\"", x.of(0, 2), care);
        Check.due("29: YEARS by \"" + text + "\"", x.of(0, 3), years);
    }

    /** Each perhaps, from 0 to 99. */
    private static void traitsOfPotters() {
        dueTraits("son heat 0", 0, 20, 0);
        dueTraits("son heat 99", 99, 20, 0);
        dueTraits("son care 0", 30, 0, 0);
        dueTraits("son care 99", 30, 99, 0);
        dueTraits("son years 0", 30, 20, 0);
        dueTraits("son years 99", 30, 20, 99);
        dueTraits("son heat 1 care 2", 1, 2, 0);
        dueTraits("son heat 1 years 3", 1, 20, 3);
        dueTraits("son care 2 years 3", 30, 2, 3);
        dueTraits("son heat 99 care 99 years 99", 99, 99, 99);
        dueTraits("son heat 0 care 0 years 0", 0, 0, 0);
        dueFaults("boy heat ^100", "boy care ^100", "boy years ^100", "boy heat ^999", "boy heat ^1000", "boy care ^1000", "boy years ^1000");
    }

    private static void orderOfTraits() {
        dueFaults("boy care 1 ^heat 1", "boy years 1 ^heat 1", "boy years 1 ^care 1", "boy heat 1 ^heat 1", "boy care 1 ^care 1",
            "boy years 1 ^years 1", "boy heat ^care 1", "boy heat ^heat 1", "boy heat ^boy", "boy care ^years 1", "boy years ^heat",
            "boy heat 1 care 1 years 1 ^1", "boy heat 1 care 1 years 1 ^boy", "boy heat 1 care ^;", "boy heat 1 years ^;",
            "boy ^boy", "boy ^rift 0 1 5", "boy ^clay 1", "boy ^pair 0 0 0");
    }

    private static void ninthPotter() {
        Check.due("29: eight", dueItems("boy;boy;boy;boy;boy;boy;boy;son", 8).of(7, 0), Check.SON);
        dueFault(Edges::fresh, "boy;boy;boy;boy;boy;boy;boy;boy;^boy");
        dueFault(Edges::fresh, "boy;boy;boy;boy;boy;boy;boy;boy;^boy heat 100");
        dueFault(Edges::full, "^boy");
        dueFault(Edges::full, "^stranger");
        dueFault(Edges::full, "clay 1; ^potter heat 5");
        dueFault(Edges::full, "clay ^0;boy");
        dueFault(Edges::full, "^wife");
        dueFault(Edges::sevenOfEight, "son;^son");
        dueFaults("boy;boy;boy;boy;^boy", "boy;boy;boy;boy heat ^100;boy");
        TwoWheel x = withTape(Edges::sevenOfEight, "clay 2;son;clay 3");
        Check.due("29: the eighth", x.text(), 3);
        Check.due("29: eight", x.count(1), 8);
        x = withTape(Edges::full, "clay 2;rift 0 7 5;pair 0 7 7");
        Check.due("29: eight are no fault", x.text(), 3);
        Check.due("29: RIFT", x.two(0, 7, 0), 5);
    }

    /** Of the four who are there. */
    private static void rifts() {
        for (int v = 0; v <= 99; v += 99) {
            TwoWheel x = withTape(Edges::busy, "rift 0 3 " + v + ";rift 2 1 " + v);
            Check.due("29: two RIFTS", x.text(), 2);
            Check.due("29: RIFT", x.two(0, 3, 0), v);
            Check.due("29: RIFT", x.two(1, 2, 0), v);
            Check.due("29: RIFT of others", x.two(0, 2, 0), 20);
        }
        dueFaults("rift 0 1 ^100", "rift 0 1 ^999", "rift 0 1 ^1000", "rift 0 ^4 5", "rift ^4 0 5", "rift 0 ^7 5", "rift ^8 0 5", "rift 0 ^0 5", "rift 3 ^3 5",
            "rift 03 ^3 5", "rift 3 ^003 5", "rift 0 1 5 ^5", "rift ^boy 1 5", "rift 0 ^boy 5", "rift 0 1 ^boy", "rift ^1000 1 5", "rift 0 ^1000 5");
    }

    private static void riftsOfThoseThere() {
        dueFault(Edges::fresh, "rift ^0 1 5");
        dueFault(Edges::fresh, "boy;rift 0 ^1 5");
        dueFault(Edges::fresh, "boy;rift ^1 0 5");
        dueFault(Edges::fresh, "boy;rift 0 ^0 5");
        dueFault(Edges::fresh, "boy;rift 0 ^1 5;boy");
        dueFault(Edges::fresh, "rift ^0 1 5;boy;boy");
        dueFault(Edges::full, "rift 7 ^8 5");
        dueFault(Edges::full, "rift ^8 7 5");
        Check.due("29: told just now", dueItems("boy;boy;rift 1 0 5", 3).two(0, 1, 0), 5);
        TwoWheel x = withTape(Edges::busy, "boy;rift 4 0 99;rift 3 4 0");
        Check.due("29: with one told just now", x.text(), 3);
        Check.due("29: RIFT", x.two(0, 4, 0), 99);
        Check.due("29: RIFT", x.two(4, 3, 0), 0);
    }

    /** A and B need not be there, and may be the same. */
    private static void pairs() {
        TwoWheel x = dueItems("pair 0 0 0;pair 1 7 7;pair 2 0 7;pair 3 7 0;pair 5 6 5", 5);
        int[] want = {0, 77, 7, 70, 1, 65};
        for (int i = 0; i < 6; i++) {
            Check.due("29: PAIR " + i, x.listed(i), want[i]);
        }
        dueFaults("pair ^6 0 0", "pair 0 ^8 0", "pair 0 0 ^8", "pair ^999 0 0", "pair 0 ^10 0", "pair 0 0 ^10", "pair ^1000 0 0", "pair 0 ^1000 0", "pair 0 0 ^1000",
            "pair 0 0 0 ^0", "pair ^boy 0 0", "pair 0 ^boy 0", "pair 0 0 ^boy");
    }

    private static void clay() {
        dueClay("clay 1", 1);
        dueClay("clay 20", 20);
        dueFaults("clay ^0", "clay ^21", "clay ^99", "clay ^boy", "clay ^clay 1", "clay 1 ^clay 1");
    }

    /** Item by item: what is told first is so for the next; a fault in the last takes all back. */
    private static void items() {
        Check.due("29: the latter", dueItems("clay 2;clay 3", 2).clay(1), 3);
        Check.due("29: the latter", dueItems("pair 0 1 2;pair 0 3 4", 2).listed(0), 34);
        Check.due("29: the latter", dueItems("boy;boy;rift 0 1 5;rift 1 0 6", 4).two(0, 1, 0), 6);
        dueFaults("clay 3;pair 0 5 5;rift 0 1 5;boy heat 5;^hold", "clay 3;pair 0 5 5;rift 0 1 5;boy heat 5;clay ^21",
            "boy;rift 4 0 7;pair 0 5 5;clay 3^#", "boy;rift 4 0 7;pair 0 5 5;clay^");
        TwoWheel x = withTape(Edges::fresh, "boy;rift 0 1 7;boy");
        x.text();
        Check.due("29: what comes behind a fault is as at first", x.potter(0, 1), 0);
        x.potter(0, 1);
        Check.due("29: RIFT as at first", x.two(0, 1, 0), 20);
    }

    /** The fault is how many bytes there are, blanks, too. */
    private static void endsTooEarly() {
        dueFaults("clay^", "clay ^", "clay   ^", "boy heat^", "boy heat ^", "boy care^", "boy years^", "boy heat 1 care^", "boy care 1 years ^",
            "rift^", "rift 0^", "rift 0 1^", "rift 0 1 ^", "pair^", "pair 0^", "pair 0 0^", "pair 0 0 ^", "boy;^", "boy; ^", "clay 1;^");
    }
}
