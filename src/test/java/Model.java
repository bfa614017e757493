import java.math.BigInteger;
import java.util.ArrayList;
import java.util.Arrays;
import java.util.HashMap;
import java.util.List;
import java.util.Map;
import java.util.function.Predicate;
import java.util.regex.Matcher;
import java.util.regex.Pattern;

/**
 * The document once more, written with the whole Java library and in another way than the class, so that the
 * two are not wrong alike: one class for each kind, rifts by name, copies made anew for each look ahead.
 */
final class Model {
    private static final String[] KIND_NAMES = {"potter", "husband", "son", "father", "partner", "stranger", "boy"};

    private static final class Finding extends RuntimeException {
        final int which;

        Finding(int which) {
            super(null, null, false, false);
            this.which = which;
        }
    }

    private static class Potter {
        int heat;
        int care;
        int years;

        int pushes() {
            return heat / 10;
        }

        int says() {
            return heat >= 50 ? 1 : -1;
        }

        int cools() {
            return 2;
        }

        int boils() {
            return 5;
        }
    }

    private static class Husband extends Potter {
        @Override int pushes() {
            return super.pushes() + years / 10;
        }

        @Override int says() {
            return super.says() + 1;
        }

        @Override int cools() {
            return super.cools() - 1;
        }
    }

    private static class Father extends Husband {
        @Override int pushes() {
            return Math.max(0, super.pushes() - care / 10);
        }

        @Override int says() {
            return care >= 60 ? -3 : super.says();
        }

        @Override int boils() {
            return super.boils() + 5;
        }
    }

    private static class Partner extends Father {
        @Override int pushes() {
            return super.pushes() + 2;
        }

        @Override int says() {
            return -2;
        }

        @Override int cools() {
            return 2 * super.cools();
        }
    }

    private static class Son extends Potter {
        @Override int pushes() {
            return 2 * super.pushes();
        }

        @Override int cools() {
            return super.cools() + 3;
        }

        @Override int boils() {
            return super.boils() - 2;
        }
    }

    private static class Boy extends Son {
        @Override int pushes() {
            return Math.max(0, super.pushes() - care / 5);
        }

        @Override int says() {
            return care < 10 ? 20 : super.says();
        }
    }

    private static class Stranger extends Potter {
        @Override int pushes() {
            return 1;
        }

        @Override int says() {
            return 0;
        }

        @Override int cools() {
            return 0;
        }

        @Override int boils() {
            return 1;
        }
    }

    private static Potter ofKind(int kind) {
        switch (kind) {
            case 0: return new Potter();
            case 1: return new Husband();
            case 2: return new Son();
            case 3: return new Father();
            case 4: return new Partner();
            case 5: return new Stranger();
            default: return new Boy();
        }
    }

    private static final class Who {
        int kind;
        int heat = 30;
        int care = 20;
        int years;
        int thrown;
        int flops;

        Who like() {
            Who w = new Who();
            for (int what = 0; what <= 5; what++) {
                w.put(what, get(what));
            }
            return w;
        }

        Potter hands() {
            Potter p = ofKind(kind);
            p.heat = heat;
            p.care = care;
            p.years = years;
            return p;
        }

        int get(int what) {
            switch (what) {
                case 0: return kind;
                case 1: return heat;
                case 2: return care;
                case 3: return years;
                case 4: return thrown;
                case 5: return flops;
                case 6: return hands().pushes();
                case 7: return hands().says();
                case 8: return hands().cools();
                default: return hands().boils();
            }
        }

        void put(int what, int v) {
            switch (what) {
                case 0: kind = v; break;
                case 1: heat = v; break;
                case 2: care = v; break;
                case 3: years = v; break;
                case 4: thrown = v; break;
                default: flops = v; break;
            }
        }
    }

    private static final class World {
        int clay = 10;
        int gold;
        int round;
        int rings;
        int day;
        int z = 1;
        final int[][] list = {{0, 1}, {0, 1}, {0, 1}, {0, 1}, {0, 1}, {0, 1}};
        final List<Who> who = new ArrayList<>();
        final Map<String, Integer> rifts = new HashMap<>();
        final Map<Integer, Integer> spots = new HashMap<>();

        World like() {
            World w = new World();
            w.clay = clay;
            w.gold = gold;
            w.round = round;
            w.rings = rings;
            w.day = day;
            w.z = z;
            for (int i = 0; i < 6; i++) {
                w.list[i] = list[i].clone();
            }
            who.forEach(one -> w.who.add(one.like()));
            w.rifts.putAll(rifts);
            w.spots.putAll(spots);
            return w;
        }

        boolean there(int p) {
            return p >= 0 && p < who.size();
        }

        int rift(int a, int b) {
            return rifts.getOrDefault(Math.min(a, b) + "-" + Math.max(a, b), 20);
        }

        void rift(int a, int b, int v) {
            rifts.put(Math.min(a, b) + "-" + Math.max(a, b), v);
        }

        int rises(int a, int b) {
            return clay * rift(a, b) / 20;
        }

        int leans(int a, int b) {
            return who.get(a).hands().pushes() - who.get(b).hands().pushes();
        }

        boolean flops(int a, int b) {
            return rises(a, b) == 0 || Math.abs(leans(a, b)) > rises(a, b);
        }

        boolean throwsOne() {
            int[] pair = list[day % 6];
            return there(pair[0]) && there(pair[1]) && pair[0] != pair[1];
        }

        void day() {
            if (throwsOne()) {
                pot(list[day % 6][0], list[day % 6][1]);
            }
            if (day % 10 == 9) {
                who.forEach(one -> one.years = Math.min(99, one.years + 1));
            }
            day = Math.min(99999, day + 1);
        }

        private void pot(int a, int b) {
            Who[] both = {who.get(a), who.get(b)};
            int said = both[0].hands().says() + both[1].hands().says();
            int rises = rises(a, b);
            int leans = leans(a, b);
            boolean flop = flops(a, b);
            for (Who one : both) {
                if (flop) {
                    one.flops = Math.min(9999, one.flops + 1);
                    one.heat = Math.min(99, one.heat + one.hands().boils());
                } else {
                    one.thrown = Math.min(9999, one.thrown + 1);
                    one.heat = Math.max(0, one.heat - one.hands().cools());
                }
            }
            if (!flop) {
                gold = Math.min(99999, gold + rises + Math.abs(leans));
                round = Math.min(9999, leans == 0 ? round + 1 : round);
                rings = Math.min(9999, leans == 0 && rises >= 40 ? rings + 1 : rings);
            }
            rift(a, b, Math.min(99, Math.max(0, rift(a, b) + said)));
        }

        World behind(int n) {
            World w = like();
            for (int i = 0; i < n; i++) {
                w.day();
            }
            return w;
        }

        int draw() {
            z = z * 1103515245 + 12345;
            return z >>> 8;
        }
    }

    private World now = new World();
    private World kept;
    private final StringBuilder tape = new StringBuilder();
    private final List<List<Integer>> sheets = new ArrayList<>(Arrays.asList(null, null, null, null));
    private final int[] bits = new int[4];
    private final int[] found = new int[7];

    /** The answer to a call, told by its name and arguments. */
    long call(String name, int[] a) {
        try {
            return answer(name, a);
        } catch (Finding f) {
            found[f.which]++;
            return -1000001 - f.which;
        }
    }

    private static void need(boolean holds, int finding) {
        if (!holds) {
            throw new Finding(finding);
        }
    }

    private static void range(int v, int least, int most) {
        need(v >= least && v <= most, 0);
    }

    private void one(int p) {
        need(now.there(p), 0);
    }

    private void twoOf(int a, int b) {
        need(now.there(a) && now.there(b) && a != b, 0);
    }

    private void thereIs(int s) {
        range(s, 0, 3);
        need(sheets.get(s) != null, 5);
    }

    private long answer(String name, int[] a) {
        switch (name) {
            case "clay": {
                range(a[0], 1, 20);
                int was = now.clay;
                now.clay = a[0];
                return was;
            }
            case "pair": {
                range(a[0], 0, 5);
                range(a[1], 0, 7);
                range(a[2], 0, 7);
                int[] was = now.list[a[0]];
                now.list[a[0]] = new int[] {a[1], a[2]};
                return 10 * was[0] + was[1];
            }
            case "listed":
                range(a[0], 0, 5);
                return 10 * now.list[a[0]][0] + now.list[a[0]][1];
            case "potter": {
                range(a[0], 0, 6);
                range(a[1], 0, 99);
                need(now.who.size() < 8, 1);
                Who w = new Who();
                w.kind = a[0];
                w.heat = a[1];
                now.who.add(w);
                return now.who.size() - 1;
            }
            case "of":
                one(a[0]);
                range(a[1], 0, 9);
                return now.who.get(a[0]).get(a[1]);
            case "change": {
                one(a[0]);
                range(a[1], 0, 5);
                range(a[2], 0, a[1] == 0 ? 6 : a[1] < 4 ? 99 : 9999);
                int was = now.who.get(a[0]).get(a[1]);
                now.who.get(a[0]).put(a[1], a[2]);
                return was;
            }
            case "rift": {
                twoOf(a[0], a[1]);
                range(a[2], 0, 99);
                int was = now.rift(a[0], a[1]);
                now.rift(a[0], a[1], a[2]);
                return was;
            }
            case "two":
                twoOf(a[0], a[1]);
                range(a[2], 0, 3);
                return a[2] == 0 ? now.rift(a[0], a[1]) : a[2] == 1 ? now.rises(a[0], a[1])
                    : a[2] == 2 ? now.leans(a[0], a[1]) : now.flops(a[0], a[1]) ? 1 : 0;
            case "go":
                range(a[0], 1, 60);
                need(now.day + a[0] <= 99999, 4);
                now = now.behind(a[0]);
                return now.gold;
            case "now":
                range(a[0], 0, 7);
                return nowIs(a[0]);
            default:
                return laterAnswer(name, a);
        }
    }

    private int nowIs(int what) {
        switch (what) {
            case 0: return now.day;
            case 1: return now.gold;
            case 2: return now.round;
            case 3: return now.rings;
            case 4: return now.who.stream().mapToInt(w -> w.heat).sum();
            case 5: {
                int best = -1;
                for (int told = 63; told >= 0; told--) {
                    int a = told / 8;
                    int b = told % 8;
                    if (a < b && now.there(b) && (best < 0 || now.rift(a, b) >= now.rift(best / 8, best % 8))) {
                        best = told;
                    }
                }
                return best;
            }
            case 6: return now.who.stream().mapToInt(w -> w.flops).sum();
            default: return now.throwsOne() ? 1 : 0;
        }
    }

    private int first(int from, int most, Predicate<World> holds) {
        for (int n = from; n <= most; n++) {
            if (holds.test(now.behind(n))) {
                return n;
            }
        }
        throw new Finding(3);
    }

    private interface Turn {
        void turn(World w, int v);
    }

    private int richest(int top, int n, int but, Turn turn) {
        int best = -1;
        int most = -1;
        for (int v = 0; v <= top; v++) {
            World w = now.like();
            turn.turn(w, v);
            int gold = w.behind(n).gold;
            if (v != but && gold > most) {
                most = gold;
                best = v;
            }
        }
        return best;
    }

    private long laterAnswer(String name, int[] a) {
        switch (name) {
            case "ahead":
                one(a[0]);
                need(Arrays.asList(1, 3, 4, 5, 6).contains(a[1]), 0);
                range(a[2], 0, 100);
                return now.behind(a[2]).who.get(a[0]).get(a[1]);
            case "terms":
                twoOf(a[0], a[1]);
                range(a[2], 0, 100);
                return now.behind(a[2]).rift(a[0], a[1]);
            case "next":
                range(a[0], 0, 1);
                return first(1, 200, w -> a[0] == 0 ? w.round > now.round : w.rings > now.rings);
            case "peace":
                twoOf(a[0], a[1]);
                range(a[2], 0, 99);
                return first(0, 200, w -> w.rift(a[0], a[1]) <= a[2]);
            case "when":
                one(a[0]);
                range(a[1], 0, 9999);
                return first(0, 200, w -> w.who.get(a[0]).thrown >= a[1]);
            case "setWith":
                range(a[0], 0, 5);
                one(a[1]);
                range(a[2], 0, 60);
                need(now.who.size() > 1, 3);
                return richest(now.who.size() - 1, a[2], a[1], (w, v) -> w.list[a[0]] = new int[] {a[1], v});
            case "heatFor":
                one(a[0]);
                range(a[1], 0, 60);
                return richest(99, a[1], -1, (w, v) -> w.who.get(a[0]).heat = v);
            case "kindFor":
                one(a[0]);
                range(a[1], 0, 60);
                return richest(6, a[1], -1, (w, v) -> w.who.get(a[0]).kind = v);
            case "clayFor":
                one(a[0]);
                range(a[1], 0, 60);
                return clayFor(a[0], a[1]);
            case "reconcile":
                range(a[0], 0, 20);
                return reconcile(a[0]);
            case "fits":
                thereIs(a[0]);
                twoOf(a[1], a[2]);
                return fits(sheets.get(a[0]), a[1], a[2]);
            case "kinds":
                thereIs(a[0]);
                one(a[1]);
                return kinds(sheets.get(a[0]), a[1]);
            default:
                return lastAnswer(name, a);
        }
    }

    private int clayFor(int p, int n) {
        for (int clay = 1; clay <= 20; clay++) {
            World w = now.like();
            w.clay = clay;
            if (w.behind(n).who.get(p).flops == now.who.get(p).flops) {
                return clay;
            }
        }
        throw new Finding(3);
    }

    private int reconcile(int n) {
        for (int size = 0; size <= now.who.size(); size++) {
            for (int set = 0; set < 1 << now.who.size(); set++) {
                if (Integer.bitCount(set) != size) {
                    continue;
                }
                World w = now.like();
                for (int a = 0; a < 8; a++) {
                    for (int b = 0; b < 8; b++) {
                        if (a != b && (set & 1 << a) != 0 && (set & 1 << b) != 0) {
                            w.rift(a, b, 0);
                        }
                    }
                }
                if (w.behind(n).round == now.round) {
                    return set;
                }
            }
        }
        throw new Finding(3);
    }

    private int fits(List<Integer> sheet, int a, int b) {
        int fit = 0;
        for (int v = 0; v <= 99; v++) {
            World w = now.like();
            w.rift(a, b, v);
            boolean as = true;
            for (int i = 0; i < sheet.size() && as; i++) {
                as = sheet.get(i) == -1 || sheet.get(i) == w.rift(a, b);
                w.day();
            }
            fit += as ? 1 : 0;
        }
        return fit;
    }

    private int kinds(List<Integer> sheet, int p) {
        int set = 0;
        for (int kind = 0; kind < 7; kind++) {
            World w = now.like();
            w.who.get(p).kind = kind;
            boolean as = true;
            for (int i = 0; i < sheet.size() && as; i++) {
                as = sheet.get(i) == -1 || sheet.get(i) == w.who.get(p).heat;
                w.day();
            }
            set += as ? 1 << kind : 0;
        }
        return set;
    }

    private long lastAnswer(String name, int[] a) {
        switch (name) {
            case "market":
                range(a[0], 1, 20);
                need(now.day + a[0] <= 99999, 4);
                for (int i = 0; i < a[0]; i++) {
                    now.list[now.day % 6][0] = now.draw() % 8;
                    now.list[now.day % 6][1] = now.draw() % 8;
                    now.clay = 1 + now.draw() % 20;
                    now.day();
                }
                return now.gold;
            case "odds":
                twoOf(a[0], a[1]);
                range(a[2], 0, 14);
                range(a[3], 0, 1);
                return odds(a[0], a[1], a[2], a[3]);
            case "seed": {
                int was = now.z;
                now.z = a[0];
                return was;
            }
            case "feed":
                range(a[1], 1, 4);
                need(tape.length() + a[1] <= 120, 1);
                for (int i = a[1] - 1; i >= 0; i--) {
                    tape.append((char) (a[0] >> 8 * i & 255));
                }
                return tape.length();
            case "wipe": {
                int had = tape.length();
                tape.setLength(0);
                return had;
            }
            case "text":
                return text();
            case "hold":
                range(a[0], 0, 9);
                need(a[1] == -1 || now.there(a[1]), 0);
                now.spots.put(a[0], a[1]);
                return 1;
            case "as": {
                range(a[0], 0, 9);
                range(a[1], 0, 6);
                int p = now.spots.getOrDefault(a[0], -1);
                need(p >= 0, 5);
                need(ofKind(a[1]).getClass().isInstance(now.who.get(p).hands()), 2);
                return p;
            }
            case "image":
                kept = now.like();
                return 1;
            case "undo":
                need(kept != null, 3);
                now = kept.like();
                return now.day;
            case "tear": {
                int was = kept == null ? 0 : 1;
                kept = null;
                return was;
            }
            case "count":
                range(a[0], 0, 7);
                return new int[] {now.day, now.who.size(), now.gold, now.round, nowIs(6), tape.length(), now.z,
                    (int) now.spots.values().stream().filter(p -> p >= 0).count()}[a[0]];
            case "status":
                range(a[0], -1, 6);
                return a[0] >= 0 ? found[a[0]] : Arrays.stream(found).sum();
            default:
                return sheetAnswer(name, a);
        }
    }

    private long odds(int a, int b, int n, int what) {
        int good = 0;
        for (int clay = 1; clay <= 20; clay++) {
            World w = now.like();
            w.clay = clay;
            good += w.flops(a, b) ? 0 : 1;
        }
        BigInteger above = BigInteger.valueOf(good).pow(n);
        BigInteger below = BigInteger.valueOf(20).pow(n);
        BigInteger shared = above.gcd(below);
        return (what == 0 ? above : below).divide(shared).longValueExact();
    }

    private long sheetAnswer(String name, int[] a) {
        switch (name) {
            case "sheet":
                range(a[0], 0, 3);
                need(Arrays.asList(0, 8, 16, 32).contains(a[1]), 0);
                need(a[2] >= 0, 6);
                range(a[2], 0, 40);
                bits[a[0]] = a[1];
                sheets.set(a[0], a[1] == 0 ? null : new ArrayList<>(java.util.Collections.nCopies(a[2], 0)));
                return a[1] == 0 ? 0 : a[2];
            case "write":
                thereIs(a[0]);
                range(a[1], 0, sheets.get(a[0]).size() - 1);
                sheets.get(a[0]).set(a[1], a[2] << 32 - bits[a[0]] >> 32 - bits[a[0]]);
                return 1;
            case "copy": {
                range(a[0], 0, 3);
                range(a[2], 0, 3);
                thereIs(a[0]);
                thereIs(a[2]);
                need(bits[a[0]] == bits[a[2]], 2);
                need(a[1] >= 0 && a[3] >= 0 && a[4] >= 0, 0);
                need((long) a[1] + a[4] <= sheets.get(a[0]).size() && (long) a[3] + a[4] <= sheets.get(a[2]).size(), 0);
                List<Integer> were = new ArrayList<>(sheets.get(a[0]).subList(a[1], a[1] + a[4]));
                for (int i = 0; i < were.size(); i++) {
                    sheets.get(a[2]).set(a[3] + i, were.get(i));
                }
                return a[4];
            }
            case "load": {
                thereIs(a[0]);
                int came = 0;
                for (int v : sheets.get(a[0])) {
                    if (v < 0 || v > 99 || !now.there(came)) {
                        break;
                    }
                    now.who.get(came).care = v;
                    came++;
                }
                return came;
            }
            case "judge": {
                thereIs(a[0]);
                for (int i = 0; i < sheets.get(a[0]).size(); i++) {
                    if (!now.there(i) || now.who.get(i).thrown != sheets.get(a[0]).get(i)) {
                        return 1 + i;
                    }
                }
                return 0;
            }
            default:
                throw new IllegalStateException(name);
        }
    }

    private static final class Fault extends RuntimeException {
        final int place;

        Fault(int place) {
            super(null, null, false, false);
            this.place = place;
        }
    }

    private static final Pattern TOKEN = Pattern.compile(" *([a-z]+|[0-9]+|;|[^ ]|$)", Pattern.DOTALL);

    private final class Text {
        private final Matcher tokens;
        private String token;
        private final World world;

        Text(String all, World world) {
            this.world = world;
            tokens = TOKEN.matcher(all);
            more();
        }

        private void more() {
            tokens.find();
            token = tokens.group(1);
        }

        private Fault fault() {
            return new Fault(tokens.start(1));
        }

        int items() {
            int n = 0;
            do {
                if (n > 0) {
                    more();
                }
                item();
                n++;
            } while (token.equals(";"));
            if (!token.isEmpty()) {
                throw fault();
            }
            return n;
        }

        private void item() {
            int kind = Arrays.asList(KIND_NAMES).indexOf(token);
            if (kind >= 0) {
                if (world.who.size() == 8) {
                    throw fault();
                }
                more();
                Who w = new Who();
                w.kind = kind;
                w.heat = perhaps("heat", 30);
                w.care = perhaps("care", 20);
                w.years = perhaps("years", 0);
                world.who.add(w);
            } else if (token.equals("rift")) {
                more();
                int a = number(0, world.who.size() - 1, -1);
                int b = number(0, world.who.size() - 1, a);
                world.rift(a, b, number(0, 99, -1));
            } else if (token.equals("pair")) {
                more();
                int i = number(0, 5, -1);
                int a = number(0, 7, -1);
                world.list[i] = new int[] {a, number(0, 7, -1)};
            } else if (token.equals("clay")) {
                more();
                world.clay = number(1, 20, -1);
            } else {
                throw fault();
            }
        }

        private int perhaps(String name, int otherwise) {
            if (!token.equals(name)) {
                return otherwise;
            }
            more();
            return number(0, 99, -1);
        }

        private int number(int least, int most, int but) {
            if (!token.matches("[0-9]+")) {
                throw fault();
            }
            BigInteger v = new BigInteger(token);
            if (v.compareTo(BigInteger.valueOf(least)) < 0 || v.compareTo(BigInteger.valueOf(most)) > 0 || v.intValue() == but) {
                throw fault();
            }
            more();
            return v.intValue();
        }
    }

    private int text() {
        String all = tape.toString();
        tape.setLength(0);
        World next = now.like();
        try {
            int items = new Text(all, next).items();
            now = next;
            return items;
        } catch (Fault f) {
            return -1 - f.place;
        }
    }
}
