/** What the tests share: answers that are due, findings, and how a text comes onto the tape. */
final class Check {
    static final int BEYOND = -1000001;
    static final int FULL = BEYOND - 1;
    static final int KIND = BEYOND - 2;
    static final int NONE = BEYOND - 3;
    static final int STATE = BEYOND - 4;
    static final int MISSING = BEYOND - 5;
    static final int SIZE = BEYOND - 6;

    static final int POTTER = 0;
    static final int HUSBAND = 1;
    static final int SON = 2;
    static final int FATHER = 3;
    static final int PARTNER = 4;
    static final int STRANGER = 5;
    static final int BOY = 6;

    private static int asked = 0;
    private static int wrong = 0;

    private Check() {
    }

    static void due(String call, long got, long want) {
        asked++;
        if (got != want) {
            wrong++;
            System.out.println(call + " answered " + got + ", due is " + want);
        }
    }

    static void beyond(String call, long got) {
        due(call, got, BEYOND);
    }

    /** Puts a text onto the tape, four bytes a call, since an object is promised for 512 calls alone. */
    static void feed(TwoWheel x, String text) {
        for (int from = 0; from < text.length(); from += 4) {
            int n = Math.min(4, text.length() - from);
            int bytes = 0;
            for (int i = from; i < from + n; i++) {
                bytes = bytes << 8 | text.charAt(i);
            }
            x.feed(bytes, n);
        }
    }

    /** Reads a text and asks for the answer. */
    static void text(TwoWheel x, String text, int want) {
        feed(x, text);
        due("text \"" + text + "\"", x.text(), want);
    }

    /** A pottery from a text that must be without fault. */
    static TwoWheel pottery(String... texts) {
        TwoWheel x = new TwoWheel();
        for (String text : texts) {
            feed(x, text);
            int items = x.text();
            due("\"" + text + "\" has no fault", items > 0 ? 1 : 0, 1);
        }
        return x;
    }

    /** A sheet of numbers. */
    static void sheet(TwoWheel x, int s, int bits, int... numbers) {
        due("sheet(" + s + ", " + bits + ", " + numbers.length + ")", x.sheet(s, bits, numbers.length), numbers.length);
        for (int i = 0; i < numbers.length; i++) {
            due("write(" + s + ", " + i + ", " + numbers[i] + ")", x.write(s, i, numbers[i]), 1);
        }
    }

    static void end() {
        System.out.println(wrong == 0 ? asked + " answers are as due" : wrong + " of " + asked + " answers are not as due");
        if (wrong != 0) {
            System.exit(1);
        }
    }
}
