import java.lang.reflect.Method;
import java.lang.reflect.Modifier;
import java.util.ArrayList;
import java.util.Arrays;
import java.util.HashMap;
import java.util.List;
import java.util.Map;
import java.util.TreeSet;

/**
 * Every call with every mixture of arguments at, ahead of and behind the ends of their ranges, in several states,
 * answered by the class and by Model: so each finding is asked in its order with each other one.
 */
public final class GridTest {
    /** A new object is made behind so many calls, since one is promised for 512 alone. */
    private static final int CALLS = 400;

    /** For each call what its arguments may be: a range, the numbers of potters, or numbers written out. */
    private static final String[] ARGUMENTS = {
        "clay 1..20", "pair 0..5 0..7 0..7", "listed 0..5", "potter 0..6 0..99", "of potter 0..9",
        "change potter 0..5 -1,0,5,6,7,98,99,100,9998,9999,10000", "rift potter potter 0..99", "two potter potter 0..3",
        "go 1..60", "now 0..7", "ahead potter 0..9 0..100", "terms potter potter 0..100", "next 0..1",
        "peace potter potter 0..99", "when potter 0..9999", "setWith 0..5 potter 0..60", "heatFor potter 0..60",
        "kindFor potter 0..60", "clayFor potter 0..60", "reconcile 0..20", "fits 0..3 potter potter", "kinds 0..3 potter",
        "market 1..20", "odds potter potter 0..14 0..1", "seed 0..1", "feed 0..255 1..4", "wipe", "text",
        "hold 0..9 potter", "as 0..9 0..6", "sheet 0..3 -8,0,1,7,8,9,15,16,17,31,32,33,64 0..40",
        "write 0..3 0..3 -32769,-257,-129,-1,0,99,100,127,128,255,256,32768,65535,65536", "copy 0..3 0..3 0..3 0..3 0..4",
        "load 0..3", "judge 0..3", "image", "undo", "tear", "count 0..7", "status -1..6",
    };

    private static final String[][] STATES = {
        {},
        {"potter 6 44", "sheet 0 8 1", "image"},
        {"potter 1 40", "potter 2 25", "potter 3 30", "potter 6 50", "change 3 2 3", "pair 2 1 0", "pair 3 2 3", "rift 0 1 70",
            "clay 9", "hold 0 1", "hold 9 3", "go 4", "image", "rift 0 3 41", "sheet 0 8 4", "sheet 1 8 3", "sheet 2 16 4",
            "write 0 0 70", "write 1 0 -1", "write 2 3 100", "market 2"},
        {"potter 0 50", "potter 1 49", "potter 2 90", "potter 3 10", "potter 4 0", "potter 5 99", "potter 6 60", "potter 6 59",
            "pair 1 7 6", "pair 4 5 4", "clay 20", "rift 6 7 40", "rift 4 5 99", "rift 0 1 0", "sheet 3 32 40", "write 3 39 5",
            "hold 9 7", "sheet 0 8 0", "sheet 1 16 4", "sheet 2 32 4", "go 9"},
    };

    private final Map<String, Method> calls = new HashMap<>();
    private TwoWheel x;
    private Model model;
    private int made;

    public static void main(String[] args) throws ReflectiveOperationException {
        GridTest grid = new GridTest();
        for (Method m : TwoWheel.class.getDeclaredMethods()) {
            if (Modifier.isPublic(m.getModifiers())) {
                grid.calls.put(m.getName(), m);
            }
        }
        Check.due("every call is asked", ARGUMENTS.length, grid.calls.size());
        for (String[] state : STATES) {
            for (String call : ARGUMENTS) {
                grid.askAll(state, call.split(" "));
            }
        }
        Check.end();
    }

    private void askAll(String[] state, String[] call) throws ReflectiveOperationException {
        List<int[]> values = new ArrayList<>();
        int mixtures = 1;
        for (int i = 1; i < call.length; i++) {
            values.add(valuesOf(call[i]));
            mixtures *= values.get(i - 1).length;
        }
        made = CALLS;
        for (int mixture = 0; mixture < mixtures; mixture++) {
            if (made >= CALLS) {
                begin(state);
            }
            int left = mixture;
            int[] a = new int[values.size()];
            for (int i = 0; i < a.length; i++) {
                int[] row = values.get(i);
                a[i] = row[left % row.length];
                left /= row.length;
            }
            ask(call[0], a);
        }
        ask("status", -1);
    }

    private void begin(String[] state) throws ReflectiveOperationException {
        x = new TwoWheel();
        model = new Model();
        made = 0;
        for (String call : state) {
            String[] words = call.split(" ");
            ask(words[0], Arrays.stream(words).skip(1).mapToInt(Integer::parseInt).toArray());
        }
    }

    private void ask(String name, int... a) throws ReflectiveOperationException {
        made++;
        Object[] boxed = Arrays.stream(a).boxed().toArray();
        long got = ((Number) calls.get(name).invoke(x, boxed)).longValue();
        Check.due(name + Arrays.toString(a), got, model.call(name, a));
    }

    private static int[] valuesOf(String word) {
        if (word.equals("potter")) {
            return new int[] {Integer.MIN_VALUE, -2, -1, 0, 1, 3, 4, 7, 8, Integer.MAX_VALUE};
        }
        TreeSet<Integer> values = new TreeSet<>(List.of(Integer.MIN_VALUE, Integer.MAX_VALUE));
        if (word.contains("..")) {
            int least = Integer.parseInt(word.substring(0, word.indexOf('.')));
            int most = Integer.parseInt(word.substring(word.lastIndexOf('.') + 1));
            values.addAll(List.of(least - 1, least, least + 1, most - 1, most, most + 1));
        } else {
            for (String number : word.split(",")) {
                values.add(Integer.parseInt(number));
            }
        }
        return values.stream().mapToInt(Integer::intValue).toArray();
    }
}
