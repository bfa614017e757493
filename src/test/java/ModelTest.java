import java.lang.reflect.Method;
import java.lang.reflect.Modifier;
import java.util.ArrayList;
import java.util.Arrays;
import java.util.Comparator;
import java.util.List;
import java.util.Random;

/** Long runs of drawn calls (the same in each run of this test), answered by the class and by Model. */
public final class ModelTest {
    private static final int RUNS = 400;
    private static final int CALLS = 512;
    private static final String[] WORDS = {"potter", "husband", "son", "father", "partner", "stranger", "boy",
        "rift", "pair", "clay", "heat", "care", "years", "wife"};
    /** Calls that are drawn more often, so that runs come to have potters, days and numbers. */
    private static final String[] OFTEN = {"potter", "potter", "go", "go", "go", "change", "change", "rift", "rift", "pair",
        "pair", "text", "text", "text", "write", "write", "sheet", "market", "image", "undo"};

    private final Random random;
    private final TwoWheel x = new TwoWheel();
    private final Model model = new Model();

    private ModelTest(long seed) {
        random = new Random(seed);
    }

    public static void main(String[] args) throws ReflectiveOperationException {
        int runs = args.length > 0 ? Integer.parseInt(args[0]) : RUNS;
        long from = args.length > 1 ? Long.parseLong(args[1]) : 0;
        List<Method> calls = new ArrayList<>();
        List<Method> all = new ArrayList<>();
        for (Method m : TwoWheel.class.getDeclaredMethods()) {
            if (Modifier.isPublic(m.getModifiers())) {
                all.add(m);
            }
        }
        all.sort(Comparator.comparing(Method::getName));
        calls.addAll(all);
        for (String name : OFTEN) {
            all.stream().filter(m -> m.getName().equals(name)).forEach(calls::add);
        }
        for (long seed = from; seed < from + runs; seed++) {
            new ModelTest(seed).run(calls, seed);
        }
        Check.end();
    }

    private void run(List<Method> calls, long seed) throws ReflectiveOperationException {
        int made = 0;
        while (made < CALLS) {
            Method m = calls.get(random.nextInt(calls.size()));
            if (m.getName().equals("text") && random.nextInt(8) > 0) {
                String text = drawnText();
                for (int i = 0; i < text.length(); i++) {
                    ask(seed, byName(calls, "feed"), text.charAt(i), 1);
                }
                made += text.length();
            }
            if (m.getName().equals("fits") || m.getName().equals("kinds")) {
                made += toldSheet(seed, calls, m.getName());
            }
            int[] a = new int[m.getParameterCount()];
            for (int i = 0; i < a.length; i++) {
                a[i] = argument(m.getName(), i);
            }
            ask(seed, m, a);
            made++;
        }
    }

    private static Method byName(List<Method> calls, String name) {
        return calls.stream().filter(m -> m.getName().equals(name)).findFirst().orElseThrow();
    }

    private long ask(long seed, Method m, int... a) throws ReflectiveOperationException {
        Object[] boxed = Arrays.stream(a).boxed().toArray();
        long got = ((Number) m.invoke(x, boxed)).longValue();
        String call = m.getName() + Arrays.toString(a);
        Check.due("run " + seed + ": " + call, got, model.call(m.getName(), a));
        return got;
    }

    /** A sheet of what will be, with a gap here and there, so that something fits now and then. */
    private int toldSheet(long seed, List<Method> calls, String name) throws ReflectiveOperationException {
        int n = 1 + random.nextInt(8);
        int p = random.nextInt(3);
        ask(seed, byName(calls, "sheet"), 0, 8, n);
        for (int i = 0; i < n; i++) {
            String told = name.equals("fits") ? "terms" : "ahead";
            int[] a = name.equals("fits") ? new int[] {p, p + 1, i} : new int[] {p, 1, i};
            int v = (int) ask(seed, byName(calls, told), a);
            ask(seed, byName(calls, "write"), 0, i, random.nextInt(3) == 0 ? -1 : v);
        }
        if (name.equals("fits")) {
            ask(seed, byName(calls, "fits"), 0, p, p + 1);
        } else {
            ask(seed, byName(calls, "kinds"), 0, p);
        }
        return 3 * n + 2;
    }

    private int argument(String name, int i) {
        int r = random.nextInt(60);
        if (r == 0) {
            return random.nextInt();
        }
        if (r == 1) {
            return new int[] {Integer.MIN_VALUE, Integer.MAX_VALUE, -1, -2, 10000}[random.nextInt(5)];
        }
        switch (name + i) {
            case "clay0": return between(0, 21);
            case "change1": return between(-1, 6);
            case "change2": return random.nextBoolean() ? between(0, 6) : random.nextBoolean() ? between(0, 99) : between(9990, 10000);
            case "potter1": case "rift2": case "peace2": return between(-1, 100);
            case "of1": return between(-1, 10);
            case "two2": return between(-1, 4);
            case "go0": return random.nextInt(3) == 0 ? between(50, 61) : between(0, 12);
            case "now0": case "count0": return between(-1, 8);
            case "ahead1": return between(0, 7);
            case "ahead2": case "terms2": return between(-1, 101);
            case "next0": return between(-1, 2);
            case "when1": return random.nextBoolean() ? between(0, 40) : between(9990, 10000);
            case "setWith2": case "heatFor1": case "kindFor1": case "clayFor1": return between(-1, 61);
            case "reconcile0": return between(-1, 21);
            case "market0": return between(0, 21);
            case "odds2": return between(-1, 15);
            case "odds3": return between(-1, 2);
            case "seed0": return random.nextInt();
            case "feed0": return random.nextInt();
            case "feed1": return between(0, 5);
            case "hold0": case "as0": return between(-1, 10);
            case "as1": case "potter0": return between(-1, 7);
            case "sheet0": case "write0": case "copy0": case "copy2": case "load0": case "judge0": case "fits0": case "kinds0":
                return random.nextInt(4) == 0 ? between(-1, 4) : 0;
            case "sheet1": return random.nextInt(6) == 0 ? between(-1, 33) : 8 * between(1, 2) * between(1, 2);
            case "sheet2": return random.nextInt(6) == 0 ? between(-1, 41) : between(0, 12);
            case "write1": return between(-1, 12);
            case "write2": return random.nextBoolean() ? between(-1, 30) : random.nextBoolean() ? between(-1, 100) : between(-300, 300);
            case "copy1": case "copy3": case "copy4": return between(-1, 6);
            case "status0": return between(-2, 7);
            case "pair0": case "listed0": case "setWith0": return between(-1, 6);
            case "pair1": case "pair2": return between(-1, 8);
            default: return random.nextInt(12) == 0 ? between(-1, 8) : between(0, 4);
        }
    }

    private int between(int least, int most) {
        return least + random.nextInt(most - least + 1);
    }

    private String drawnText() {
        StringBuilder text = new StringBuilder();
        int items = between(1, 5);
        for (int i = 0; i < items; i++) {
            text.append(i > 0 ? ";" : "").append(blanks());
            switch (random.nextInt(5)) {
                case 0:
                    text.append("clay ").append(between(1, 20));
                    break;
                case 1:
                    text.append("pair ").append(between(0, 5)).append(' ').append(between(0, 7)).append(' ').append(between(0, 7));
                    break;
                case 2:
                    text.append("rift ").append(between(0, 3)).append(' ').append(between(0, 3)).append(' ').append(between(0, 99));
                    break;
                default:
                    text.append(WORDS[random.nextInt(7)]);
                    text.append(random.nextBoolean() ? " heat " + between(0, 99) : "");
                    text.append(random.nextBoolean() ? " care" + between(0, 99) : "");
                    text.append(random.nextBoolean() ? " years 0" + between(0, 99) : "");
                    break;
            }
        }
        if (random.nextInt(3) == 0) {
            spoil(text);
        }
        return text.length() > 120 ? text.substring(0, 120) : text.toString();
    }

    private String blanks() {
        return " ".repeat(random.nextInt(4) == 0 ? between(1, 3) : 0);
    }

    private void spoil(StringBuilder text) {
        int at = random.nextInt(text.length() + 1);
        switch (random.nextInt(5)) {
            case 0:
                text.insert(at, WORDS[random.nextInt(WORDS.length)]);
                break;
            case 1:
                text.insert(at, between(0, 2000));
                break;
            case 2:
                text.insert(at, (char) random.nextInt(256));
                break;
            case 3:
                text.setLength(at);
                break;
            default:
                text.insert(at, " ; ");
                break;
        }
    }
}
