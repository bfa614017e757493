import java.util.Arrays;

/** A pottery where each pot is thrown by two who aren't on terms; the document tells what each call must do. */
public final class TwoWheel {
    private static final int LOW = -1000001;
    private static final int BEYOND = 0;
    private static final int FULL = 1;
    private static final int KIND = 2;
    private static final int NONE = 3;
    private static final int STATE = 4;
    private static final int MISSING = 5;
    private static final int SIZE = 6;
    private static final int FINDINGS = 7;

    private static final int POTTER = 0;
    private static final int HUSBAND = 1;
    private static final int SON = 2;
    private static final int FATHER = 3;
    private static final int PARTNER = 4;
    private static final int STRANGER = 5;
    private static final int BOY = 6;
    private static final int LAST_KIND = 6;
    private static final int[] UNDER = {-1, POTTER, POTTER, HUSBAND, FATHER, POTTER, SON};
    private static final int[] COOLS = {2, 1, 5, 1, 2, 0, 5};
    private static final int[] BOILS = {5, 5, 3, 10, 10, 1, 3};

    private static final int MOST_POTTERS = 8;
    // Traits stand in rows of eight, in the order of of() and change(), so that "what" finds its row.
    private static final int OF_KIND = 0;
    private static final int OF_HEAT = 8;
    private static final int OF_CARE = 16;
    private static final int OF_YEARS = 24;
    private static final int OF_THROWN = 32;
    private static final int OF_FLOPS = 40;
    private static final int ALL_TRAITS = 48;
    private static final int[] MOST_OF_TRAIT = {LAST_KIND, 99, 99, 99, 9999, 9999};
    private static final int LAST_TRAIT = 5;

    // Of heat, care, years and rifts alike.
    private static final int MOST_LEVEL = 99;
    private static final int FIRST_HEAT = 30;
    private static final int FIRST_CARE = 20;
    private static final int FIRST_RIFT = 20;
    private static final int MOST_CLAY = 20;
    private static final int MOST_GOLD = 99999;
    private static final int MOST_DAY = 99999;
    private static final int MOST_POTS = 9999;
    private static final int RINGING = 40;
    private static final int PLACES = 6;
    private static final int SPOTS = 10;
    private static final int NOBODY = -1;
    private static final int MOST_BYTES = 120;
    private static final int SHEETS = 4;
    private static final int MOST_NUMBERS = 40;
    private static final int ANY = -1;
    private static final int FAR = 200;

    private final Pottery here;
    // What will be is tried on this one, made once, so that no call makes a pottery of its own.
    private final Pottery trial;
    private final Pottery kept;
    private boolean isKept;
    private final Tape tape;
    private final Reader reader;
    private final Sheets sheets;
    private final int[] findings;

    public TwoWheel() {
        here = new Pottery();
        trial = new Pottery();
        kept = new Pottery();
        isKept = false;
        tape = new Tape();
        reader = new Reader(tape, trial);
        sheets = new Sheets();
        findings = new int[FINDINGS];
    }

    // ---- pottery, potters

    public int clay(int v) {
        if (!within(v, 1, MOST_CLAY)) {
            return found(BEYOND);
        }
        int was = here.clay;
        here.clay = v;
        return was;
    }

    public int pair(int i, int a, int b) {
        if (!within(i, 0, PLACES - 1) || !within(a, 0, MOST_POTTERS - 1) || !within(b, 0, MOST_POTTERS - 1)) {
            return found(BEYOND);
        }
        int was = here.list[i];
        here.list[i] = 10 * a + b;
        return was;
    }

    public int listed(int i) {
        if (!within(i, 0, PLACES - 1)) {
            return found(BEYOND);
        }
        return here.list[i];
    }

    public int potter(int kind, int heat) {
        if (!within(kind, 0, LAST_KIND) || !within(heat, 0, MOST_LEVEL)) {
            return found(BEYOND);
        }
        if (here.isFull()) {
            return found(FULL);
        }
        return here.addPotter(kind, heat, FIRST_CARE, 0);
    }

    public int of(int potter, int what) {
        if (!here.has(potter) || !within(what, 0, 9)) {
            return found(BEYOND);
        }
        return here.tell(potter, what);
    }

    public int change(int potter, int what, int v) {
        if (!here.has(potter) || !within(what, 0, LAST_TRAIT) || !within(v, 0, MOST_OF_TRAIT[what])) {
            return found(BEYOND);
        }
        int place = MOST_POTTERS * what + potter;
        int was = here.traits[place];
        here.traits[place] = v;
        return was;
    }

    public int rift(int a, int b, int v) {
        if (!here.hasTwo(a, b) || !within(v, 0, MOST_LEVEL)) {
            return found(BEYOND);
        }
        int was = here.riftOf(a, b);
        here.setRift(a, b, v);
        return was;
    }

    public int two(int a, int b, int what) {
        if (!here.hasTwo(a, b) || !within(what, 0, 3)) {
            return found(BEYOND);
        }
        switch (what) {
            case 0:
                return here.riftOf(a, b);
            case 1:
                return here.rises(a, b, here.clay);
            case 2:
                return here.leans(a, b);
            default:
                return wouldFlop(here.rises(a, b, here.clay), here.leans(a, b)) ? 1 : 0;
        }
    }

    // ---- days

    public int go(int n) {
        if (!within(n, 1, 60)) {
            return found(BEYOND);
        }
        if (here.day + n > MOST_DAY) {
            return found(STATE);
        }
        here.passDays(n);
        return here.gold;
    }

    public int now(int what) {
        switch (what) {
            case 0:
                return here.day;
            case 1:
                return here.gold;
            case 2:
                return here.round;
            case 3:
                return here.rings;
            case 4:
                return here.sumOf(OF_HEAT);
            case 5:
                return here.widestTwo();
            case 6:
                return here.sumOf(OF_FLOPS);
            case 7:
                return here.throwsToday() ? 1 : 0;
            default:
                return found(BEYOND);
        }
    }

    // ---- what will be (nothing changes)

    public int ahead(int potter, int what, int n) {
        boolean isForetold = what == 1 || within(what, 3, 6);
        if (!here.has(potter) || !isForetold || !within(n, 0, 100)) {
            return found(BEYOND);
        }
        trial.become(here);
        trial.passDays(n);
        return trial.tell(potter, what);
    }

    public int terms(int a, int b, int n) {
        if (!here.hasTwo(a, b) || !within(n, 0, 100)) {
            return found(BEYOND);
        }
        trial.become(here);
        trial.passDays(n);
        return trial.riftOf(a, b);
    }

    public int next(int what) {
        if (!within(what, 0, 1)) {
            return found(BEYOND);
        }
        trial.become(here);
        for (int days = 1; days <= FAR; days++) {
            trial.passDays(1);
            boolean isMore = what == 0 ? trial.round > here.round : trial.rings > here.rings;
            if (isMore) {
                return days;
            }
        }
        return found(NONE);
    }

    public int peace(int a, int b, int v) {
        if (!here.hasTwo(a, b) || !within(v, 0, MOST_LEVEL)) {
            return found(BEYOND);
        }
        trial.become(here);
        for (int days = 0; days <= FAR; days++) {
            if (trial.riftOf(a, b) <= v) {
                return days;
            }
            trial.passDays(1);
        }
        return found(NONE);
    }

    public int when(int potter, int v) {
        if (!here.has(potter) || !within(v, 0, MOST_POTS)) {
            return found(BEYOND);
        }
        trial.become(here);
        for (int days = 0; days <= FAR; days++) {
            if (trial.traits[OF_THROWN + potter] >= v) {
                return days;
            }
            trial.passDays(1);
        }
        return found(NONE);
    }

    // ---- whom to set where

    public int setWith(int i, int potter, int n) {
        if (!within(i, 0, PLACES - 1) || !here.has(potter) || !within(n, 0, 60)) {
            return found(BEYOND);
        }
        int best = NOBODY;
        int most = -1;
        for (int other = 0; other < here.potters; other++) {
            if (other == potter) {
                continue;
            }
            trial.become(here);
            trial.list[i] = 10 * potter + other;
            trial.passDays(n);
            if (trial.gold > most) {
                most = trial.gold;
                best = other;
            }
        }
        return best == NOBODY ? found(NONE) : best;
    }

    public int heatFor(int potter, int n) {
        if (!here.has(potter) || !within(n, 0, 60)) {
            return found(BEYOND);
        }
        return dearestTrait(OF_HEAT + potter, MOST_LEVEL, n);
    }

    public int kindFor(int potter, int n) {
        if (!here.has(potter) || !within(n, 0, 60)) {
            return found(BEYOND);
        }
        return dearestTrait(OF_KIND + potter, LAST_KIND, n);
    }

    public int clayFor(int potter, int n) {
        if (!here.has(potter) || !within(n, 0, 60)) {
            return found(BEYOND);
        }
        int place = OF_FLOPS + potter;
        for (int clay = 1; clay <= MOST_CLAY; clay++) {
            trial.become(here);
            trial.clay = clay;
            trial.passDays(n);
            if (trial.traits[place] == here.traits[place]) {
                return clay;
            }
        }
        return found(NONE);
    }

    public int reconcile(int n) {
        if (!within(n, 0, 20)) {
            return found(BEYOND);
        }
        int sets = 1 << here.potters;
        int best = -1;
        for (int set = 0; set < sets; set++) {
            boolean isFewer = best < 0 || Integer.bitCount(set) < Integer.bitCount(best);
            if (isFewer && keepsRound(set, n)) {
                best = set;
            }
        }
        return best < 0 ? found(NONE) : best;
    }

    // ---- told pots

    public int fits(int s, int a, int b) {
        if (!within(s, 0, SHEETS - 1)) {
            return found(BEYOND);
        }
        if (sheets.isMissing(s)) {
            return found(MISSING);
        }
        if (!here.hasTwo(a, b)) {
            return found(BEYOND);
        }
        int fitting = 0;
        for (int rift = 0; rift <= MOST_LEVEL; rift++) {
            trial.become(here);
            trial.setRift(a, b, rift);
            if (trialRiftIsTold(s, a, b)) {
                fitting++;
            }
        }
        return fitting;
    }

    public int kinds(int s, int potter) {
        if (!within(s, 0, SHEETS - 1)) {
            return found(BEYOND);
        }
        if (sheets.isMissing(s)) {
            return found(MISSING);
        }
        if (!here.has(potter)) {
            return found(BEYOND);
        }
        int set = 0;
        for (int kind = 0; kind <= LAST_KIND; kind++) {
            trial.become(here);
            trial.traits[OF_KIND + potter] = kind;
            if (trialHeatIsTold(s, potter)) {
                set |= 1 << kind;
            }
        }
        return set;
    }

    // ---- market days

    public int market(int n) {
        if (!within(n, 1, 20)) {
            return found(BEYOND);
        }
        if (here.day + n > MOST_DAY) {
            return found(STATE);
        }
        for (int times = 0; times < n; times++) {
            here.drawMarket();
            here.passDays(1);
        }
        return here.gold;
    }

    public long odds(int a, int b, int n, int what) {
        if (!here.hasTwo(a, b) || !within(n, 0, 14) || !within(what, 0, 1)) {
            return found(BEYOND);
        }
        int good = here.claysThatStand(a, b);
        int shared = commonDivisor(good, MOST_CLAY);
        int part = what == 0 ? good : MOST_CLAY;
        return power(part / shared, n);
    }

    public int seed(int v) {
        int was = here.z;
        here.z = v;
        return was;
    }

    // ---- texts

    public int feed(int bytes, int n) {
        if (!within(n, 1, 4)) {
            return found(BEYOND);
        }
        if (tape.length + n > MOST_BYTES) {
            return found(FULL);
        }
        for (int left = n - 1; left >= 0; left--) {
            tape.append((bytes >>> (8 * left)) & 255);
        }
        return tape.length;
    }

    public int wipe() {
        int had = tape.length;
        tape.length = 0;
        return had;
    }

    public int text() {
        trial.become(here);
        reader.splitTape();
        int items = reader.readItems();
        tape.length = 0;
        if (reader.hasFault()) {
            return -1 - reader.fault;
        }
        here.become(trial);
        return items;
    }

    // ---- spots, sheets

    public int hold(int spot, int potter) {
        if (!within(spot, 0, SPOTS - 1) || (potter != NOBODY && !here.has(potter))) {
            return found(BEYOND);
        }
        here.spots[spot] = potter;
        return 1;
    }

    public int as(int spot, int kind) {
        if (!within(spot, 0, SPOTS - 1) || !within(kind, 0, LAST_KIND)) {
            return found(BEYOND);
        }
        int potter = here.spots[spot];
        if (!here.has(potter)) {
            return found(MISSING);
        }
        if (!isOrIsUnder(here.traits[OF_KIND + potter], kind)) {
            return found(KIND);
        }
        return potter;
    }

    public int sheet(int s, int bits, int n) {
        boolean isWidth = bits == 0 || bits == 8 || bits == 16 || bits == 32;
        if (!within(s, 0, SHEETS - 1) || !isWidth) {
            return found(BEYOND);
        }
        if (n < 0) {
            return found(SIZE);
        }
        if (n > MOST_NUMBERS) {
            return found(BEYOND);
        }
        int size = bits == 0 ? 0 : n;
        sheets.lay(s, bits, size);
        return size;
    }

    public int write(int s, int i, int v) {
        if (!within(s, 0, SHEETS - 1)) {
            return found(BEYOND);
        }
        if (sheets.isMissing(s)) {
            return found(MISSING);
        }
        if (!within(i, 0, sheets.sizes[s] - 1)) {
            return found(BEYOND);
        }
        sheets.put(s, i, v);
        return 1;
    }

    public int copy(int s, int from, int t, int to, int n) {
        if (!within(s, 0, SHEETS - 1) || !within(t, 0, SHEETS - 1)) {
            return found(BEYOND);
        }
        if (sheets.isMissing(s) || sheets.isMissing(t)) {
            return found(MISSING);
        }
        if (sheets.widths[s] != sheets.widths[t]) {
            return found(KIND);
        }
        if (!sheets.hasRun(s, from, n) || !sheets.hasRun(t, to, n)) {
            return found(BEYOND);
        }
        sheets.move(s, from, t, to, n);
        return n;
    }

    public int load(int s) {
        if (!within(s, 0, SHEETS - 1)) {
            return found(BEYOND);
        }
        if (sheets.isMissing(s)) {
            return found(MISSING);
        }
        int most = Math.min(sheets.sizes[s], here.potters);
        for (int i = 0; i < most; i++) {
            int care = sheets.get(s, i);
            if (!within(care, 0, MOST_LEVEL)) {
                return i;
            }
            here.traits[OF_CARE + i] = care;
        }
        return most;
    }

    public int judge(int s) {
        if (!within(s, 0, SHEETS - 1)) {
            return found(BEYOND);
        }
        if (sheets.isMissing(s)) {
            return found(MISSING);
        }
        for (int i = 0; i < sheets.sizes[s]; i++) {
            if (!here.has(i) || here.traits[OF_THROWN + i] != sheets.get(s, i)) {
                return 1 + i;
            }
        }
        return 0;
    }

    // ---- images

    public int image() {
        kept.become(here);
        isKept = true;
        return 1;
    }

    public int undo() {
        if (!isKept) {
            return found(NONE);
        }
        here.become(kept);
        return here.day;
    }

    public int tear() {
        int had = isKept ? 1 : 0;
        isKept = false;
        return had;
    }

    public int count(int what) {
        switch (what) {
            case 0:
                return here.day;
            case 1:
                return here.potters;
            case 2:
                return here.gold;
            case 3:
                return here.round;
            case 4:
                return here.sumOf(OF_FLOPS);
            case 5:
                return tape.length;
            case 6:
                return here.z;
            case 7:
                return here.spotsHeld();
            default:
                return found(BEYOND);
        }
    }

    public int status(int which) {
        if (!within(which, -1, FINDINGS - 1)) {
            return found(BEYOND);
        }
        if (which >= 0) {
            return findings[which];
        }
        int all = 0;
        for (int i = 0; i < FINDINGS; i++) {
            all += findings[i];
        }
        return all;
    }

    // ---- what the calls share

    private int found(int finding) {
        findings[finding]++;
        return LOW - finding;
    }

    private int dearestTrait(int place, int top, int n) {
        int best = 0;
        int most = -1;
        for (int v = 0; v <= top; v++) {
            trial.become(here);
            trial.traits[place] = v;
            trial.passDays(n);
            if (trial.gold > most) {
                most = trial.gold;
                best = v;
            }
        }
        return best;
    }

    private boolean keepsRound(int set, int n) {
        trial.become(here);
        trial.reconcileSet(set);
        trial.passDays(n);
        return trial.round == here.round;
    }

    private boolean trialRiftIsTold(int s, int a, int b) {
        for (int i = 0; i < sheets.sizes[s]; i++) {
            if (i > 0) {
                trial.passDays(1);
            }
            int told = sheets.get(s, i);
            if (told != ANY && told != trial.riftOf(a, b)) {
                return false;
            }
        }
        return true;
    }

    private boolean trialHeatIsTold(int s, int potter) {
        for (int i = 0; i < sheets.sizes[s]; i++) {
            if (i > 0) {
                trial.passDays(1);
            }
            int told = sheets.get(s, i);
            if (told != ANY && told != trial.traits[OF_HEAT + potter]) {
                return false;
            }
        }
        return true;
    }

    private static boolean within(int v, int least, int most) {
        return v >= least && v <= most;
    }

    private static boolean wouldFlop(int rises, int leans) {
        return rises == 0 || Math.abs(leans) > rises;
    }

    private static boolean isOrIsUnder(int kind, int asked) {
        int above = kind;
        for (int steps = 0; steps <= LAST_KIND && above >= 0; steps++) {
            if (above == asked) {
                return true;
            }
            above = UNDER[above];
        }
        return false;
    }

    /** Above 0 for every two of which one is above 0, so that it may divide. */
    private static int commonDivisor(int a, int b) {
        for (int d = Math.max(a, b); d > 1; d--) {
            if (a % d == 0 && b % d == 0) {
                return d;
            }
        }
        return 1;
    }

    private static long power(int base, int times) {
        long product = 1;
        for (int i = 0; i < times; i++) {
            product *= base;
        }
        return product;
    }

    /** All that an image keeps: potters, rifts, list, clay, gold, days, spots, z. */
    private static final class Pottery {
        int clay;
        int gold;
        int round;
        int rings;
        int day;
        int z;
        int potters;
        final int[] list;
        final int[] traits;
        final int[] rifts;
        final int[] spots;

        Pottery() {
            clay = 10;
            z = 1;
            list = new int[PLACES];
            traits = new int[ALL_TRAITS];
            rifts = new int[MOST_POTTERS * MOST_POTTERS];
            spots = new int[SPOTS];
            Arrays.fill(list, 1);
            Arrays.fill(rifts, FIRST_RIFT);
            Arrays.fill(spots, NOBODY);
        }

        void become(Pottery other) {
            clay = other.clay;
            gold = other.gold;
            round = other.round;
            rings = other.rings;
            day = other.day;
            z = other.z;
            potters = other.potters;
            System.arraycopy(other.list, 0, list, 0, PLACES);
            System.arraycopy(other.traits, 0, traits, 0, ALL_TRAITS);
            System.arraycopy(other.rifts, 0, rifts, 0, MOST_POTTERS * MOST_POTTERS);
            System.arraycopy(other.spots, 0, spots, 0, SPOTS);
        }

        boolean isFull() {
            return potters >= MOST_POTTERS;
        }

        boolean has(int potter) {
            return potter >= 0 && potter < potters;
        }

        boolean hasTwo(int a, int b) {
            return has(a) && has(b) && a != b;
        }

        /** The caller has asked isFull(). */
        int addPotter(int kind, int heat, int care, int years) {
            int p = potters;
            traits[OF_KIND + p] = kind;
            traits[OF_HEAT + p] = heat;
            traits[OF_CARE + p] = care;
            traits[OF_YEARS + p] = years;
            traits[OF_THROWN + p] = 0;
            traits[OF_FLOPS + p] = 0;
            potters++;
            return p;
        }

        int tell(int p, int what) {
            if (what <= LAST_TRAIT) {
                return traits[MOST_POTTERS * what + p];
            }
            switch (what) {
                case 6:
                    return pushes(p);
                case 7:
                    return says(p);
                case 8:
                    return COOLS[traits[OF_KIND + p]];
                default:
                    return BOILS[traits[OF_KIND + p]];
            }
        }

        int pushes(int p) {
            int asPotter = traits[OF_HEAT + p] / 10;
            int asHusband = asPotter + traits[OF_YEARS + p] / 10;
            int care = traits[OF_CARE + p];
            switch (traits[OF_KIND + p]) {
                case POTTER:
                    return asPotter;
                case HUSBAND:
                    return asHusband;
                case FATHER:
                    return Math.max(asHusband - care / 10, 0);
                case PARTNER:
                    return Math.max(asHusband - care / 10, 0) + 2;
                case SON:
                    return 2 * asPotter;
                case BOY:
                    return Math.max(2 * asPotter - care / 5, 0);
                default:
                    return 1;
            }
        }

        int says(int p) {
            int asPotter = traits[OF_HEAT + p] >= 50 ? 1 : -1;
            int care = traits[OF_CARE + p];
            switch (traits[OF_KIND + p]) {
                case HUSBAND:
                    return asPotter + 1;
                case FATHER:
                    return care >= 60 ? -3 : asPotter + 1;
                case PARTNER:
                    return -2;
                case STRANGER:
                    return 0;
                case BOY:
                    return care < 10 ? 20 : asPotter;
                default:
                    return asPotter;
            }
        }

        int riftOf(int a, int b) {
            return rifts[riftPlace(a, b)];
        }

        void setRift(int a, int b, int v) {
            rifts[riftPlace(a, b)] = v;
        }

        /** One place for both orders, so that a rift is the same from either side. */
        private static int riftPlace(int a, int b) {
            return a < b ? MOST_POTTERS * a + b : MOST_POTTERS * b + a;
        }

        int rises(int a, int b, int withClay) {
            return withClay * riftOf(a, b) / 20;
        }

        int leans(int a, int b) {
            return pushes(a) - pushes(b);
        }

        int claysThatStand(int a, int b) {
            int leans = leans(a, b);
            int standing = 0;
            for (int tried = 1; tried <= MOST_CLAY; tried++) {
                if (!wouldFlop(rises(a, b, tried), leans)) {
                    standing++;
                }
            }
            return standing;
        }

        void passDays(int n) {
            for (int i = 0; i < n; i++) {
                int today = list[day % PLACES];
                if (hasTwo(today / 10, today % 10)) {
                    throwPot(today / 10, today % 10);
                }
                if (day % 10 == 9) {
                    ageAll();
                }
                day = Math.min(day + 1, MOST_DAY);
            }
        }

        boolean throwsToday() {
            int today = list[day % PLACES];
            return hasTwo(today / 10, today % 10);
        }

        private void throwPot(int a, int b) {
            int rises = rises(a, b, clay);
            int leans = leans(a, b);
            // What is said goes by the heat ahead of the pot, which the pot changes.
            int said = says(a) + says(b);
            if (wouldFlop(rises, leans)) {
                flop(a);
                flop(b);
            } else {
                stand(a);
                stand(b);
                sell(rises, leans);
            }
            setRift(a, b, Math.max(0, Math.min(riftOf(a, b) + said, MOST_LEVEL)));
        }

        private void flop(int p) {
            int boils = BOILS[traits[OF_KIND + p]];
            traits[OF_FLOPS + p] = Math.min(traits[OF_FLOPS + p] + 1, MOST_POTS);
            traits[OF_HEAT + p] = Math.min(traits[OF_HEAT + p] + boils, MOST_LEVEL);
        }

        private void stand(int p) {
            int cools = COOLS[traits[OF_KIND + p]];
            traits[OF_THROWN + p] = Math.min(traits[OF_THROWN + p] + 1, MOST_POTS);
            traits[OF_HEAT + p] = Math.max(traits[OF_HEAT + p] - cools, 0);
        }

        private void sell(int rises, int leans) {
            gold = Math.min(gold + rises + Math.abs(leans), MOST_GOLD);
            if (leans != 0) {
                return;
            }
            round = Math.min(round + 1, MOST_POTS);
            if (rises >= RINGING) {
                rings = Math.min(rings + 1, MOST_POTS);
            }
        }

        private void ageAll() {
            for (int p = 0; p < potters; p++) {
                traits[OF_YEARS + p] = Math.min(traits[OF_YEARS + p] + 1, MOST_LEVEL);
            }
        }

        int sumOf(int row) {
            int sum = 0;
            for (int p = 0; p < potters; p++) {
                sum += traits[row + p];
            }
            return sum;
        }

        int widestTwo() {
            int widest = -1;
            int where = -1;
            for (int a = 0; a < potters; a++) {
                for (int b = a + 1; b < potters; b++) {
                    if (riftOf(a, b) > widest) {
                        widest = riftOf(a, b);
                        where = 8 * a + b;
                    }
                }
            }
            return where;
        }

        void reconcileSet(int set) {
            for (int a = 0; a < potters; a++) {
                for (int b = a + 1; b < potters; b++) {
                    if ((set >> a & 1) == 1 && (set >> b & 1) == 1) {
                        setRift(a, b, 0);
                    }
                }
            }
        }

        void drawMarket() {
            int a = draw() % MOST_POTTERS;
            int b = draw() % MOST_POTTERS;
            list[day % PLACES] = 10 * a + b;
            clay = 1 + draw() % MOST_CLAY;
        }

        private int draw() {
            z = z * 1103515245 + 12345;
            return z >>> 8;
        }

        int spotsHeld() {
            int held = 0;
            for (int i = 0; i < SPOTS; i++) {
                if (spots[i] != NOBODY) {
                    held++;
                }
            }
            return held;
        }
    }

    /** Four rows laid out once, so that a new sheet makes nothing; a sheet of width 0 is missing. */
    private static final class Sheets {
        final int[] widths;
        final int[] sizes;
        private final int[] numbers;

        Sheets() {
            widths = new int[SHEETS];
            sizes = new int[SHEETS];
            numbers = new int[SHEETS * MOST_NUMBERS];
        }

        boolean isMissing(int s) {
            return widths[s] == 0;
        }

        void lay(int s, int width, int size) {
            widths[s] = width;
            sizes[s] = size;
            for (int i = 0; i < size; i++) {
                numbers[MOST_NUMBERS * s + i] = 0;
            }
        }

        int get(int s, int i) {
            return numbers[MOST_NUMBERS * s + i];
        }

        void put(int s, int i, int v) {
            numbers[MOST_NUMBERS * s + i] = lowest(widths[s], v);
        }

        /** Signed, since a sheet of any width may tell -1. */
        private static int lowest(int width, int v) {
            switch (width) {
                case 8:
                    return (byte) v;
                case 16:
                    return (short) v;
                default:
                    return v;
            }
        }

        /** Told by what is left behind from, since from and n together may wrap around. */
        boolean hasRun(int s, int from, int n) {
            return from >= 0 && n >= 0 && from <= sizes[s] && n <= sizes[s] - from;
        }

        void move(int s, int from, int t, int to, int n) {
            System.arraycopy(numbers, MOST_NUMBERS * s + from, numbers, MOST_NUMBERS * t + to, n);
        }
    }

    private static final class Tape {
        final int[] bytes;
        int length;

        Tape() {
            bytes = new int[MOST_BYTES];
        }

        void append(int value) {
            if (length < MOST_BYTES) {
                bytes[length] = value;
                length++;
            }
        }
    }

    /** Reads the tape into a pottery that may be thrown away, since a fault must leave all as it was. */
    private static final class Reader {
        // A token is one int: a number is itself, all else is below 0, so that a range of numbers refuses it.
        private static final int END = -1;
        private static final int SIGN = -2;
        private static final int OTHER = -3;
        private static final int FIRST_WORD = -10;
        // Words 0 to 6 name the kinds of the same number.
        private static final int RIFT_WORD = 7;
        private static final int PAIR_WORD = 8;
        private static final int CLAY_WORD = 9;
        private static final int HEAT_WORD = 10;
        private static final int CARE_WORD = 11;
        private static final int YEARS_WORD = 12;
        private static final int LAST_WORD = 12;
        // Above every number that can stand, so that a long row of digits can't wrap around into one.
        private static final int TOO_MUCH = 1000;
        private static final int NO_FAULT = -1;

        private final Tape tape;
        private final Pottery into;
        private final int[] tokens;
        private final int[] starts;
        private int at;
        int fault;

        Reader(Tape tape, Pottery into) {
            this.tape = tape;
            this.into = into;
            tokens = new int[MOST_BYTES + 1];
            starts = new int[MOST_BYTES + 1];
        }

        boolean hasFault() {
            return fault != NO_FAULT;
        }

        /** All is split ahead of reading; the end is a token too, which begins where the bytes end. */
        void splitTape() {
            int n = 0;
            for (int i = 0; i < tape.length; i++) {
                if (tape.bytes[i] != ' ' && !goesOnAt(i)) {
                    tokens[n] = tokenAt(i);
                    starts[n] = i;
                    n++;
                }
            }
            tokens[n] = END;
            starts[n] = tape.length;
        }

        /** How many items; it means nothing if there is a fault. */
        int readItems() {
            fault = NO_FAULT;
            at = 0;
            int items = 0;
            while (items < MOST_BYTES && !hasFault()) {
                readItem();
                items++;
                if (tokens[at] == END) {
                    break;
                }
                take(SIGN);
            }
            return items;
        }

        private void readItem() {
            int word = FIRST_WORD - tokens[at];
            if (within(word, 0, LAST_KIND)) {
                readPotter(word);
            } else if (word == RIFT_WORD) {
                readRift();
            } else if (word == PAIR_WORD) {
                readPair();
            } else if (word == CLAY_WORD) {
                readClay();
            } else {
                refuse();
            }
        }

        private void readPotter(int kind) {
            if (into.isFull()) {
                refuse();
                return;
            }
            step();
            int heat = readPerhaps(HEAT_WORD, FIRST_HEAT);
            int care = readPerhaps(CARE_WORD, FIRST_CARE);
            int years = readPerhaps(YEARS_WORD, 0);
            into.addPotter(kind, heat, care, years);
        }

        private int readPerhaps(int word, int otherwise) {
            if (tokens[at] != FIRST_WORD - word) {
                return otherwise;
            }
            step();
            return readNumber(0, MOST_LEVEL);
        }

        private void readRift() {
            step();
            int a = readNumber(0, into.potters - 1);
            if (tokens[at] == a) {
                refuse();
            }
            int b = readNumber(0, into.potters - 1);
            int rift = readNumber(0, MOST_LEVEL);
            if (!hasFault()) {
                into.setRift(a, b, rift);
            }
        }

        private void readPair() {
            step();
            int place = readNumber(0, PLACES - 1);
            int a = readNumber(0, MOST_POTTERS - 1);
            int b = readNumber(0, MOST_POTTERS - 1);
            if (!hasFault()) {
                into.list[place] = 10 * a + b;
            }
        }

        private void readClay() {
            step();
            int clay = readNumber(1, MOST_CLAY);
            if (!hasFault()) {
                into.clay = clay;
            }
        }

        private int readNumber(int least, int most) {
            int number = tokens[at];
            if (hasFault() || !within(number, least, most)) {
                refuse();
                return least;
            }
            step();
            return number;
        }

        private void take(int token) {
            if (hasFault() || tokens[at] != token) {
                refuse();
                return;
            }
            step();
        }

        /** None of the readers steps over the end, which is the last token: this keeps to the row all the same. */
        private void step() {
            if (at < MOST_BYTES) {
                at++;
            }
        }

        /** The first fault stays: what is read behind it doesn't count. */
        private void refuse() {
            if (fault == NO_FAULT) {
                fault = starts[at];
            }
        }

        private boolean goesOnAt(int i) {
            return i > 0 && ((isLetter(i) && isLetter(i - 1)) || (isDigit(i) && isDigit(i - 1)));
        }

        private int tokenAt(int i) {
            if (isDigit(i)) {
                return numberAt(i);
            }
            if (isLetter(i)) {
                return wordAt(i);
            }
            return tape.bytes[i] == ';' ? SIGN : OTHER;
        }

        private int numberAt(int begin) {
            int number = 0;
            for (int i = begin; i < tape.length && isDigit(i); i++) {
                number = Math.min(10 * number + tape.bytes[i] - '0', TOO_MUCH);
            }
            return number;
        }

        private int wordAt(int begin) {
            for (int word = 0; word <= LAST_WORD; word++) {
                if (isWordAt(begin, nameOf(word))) {
                    return FIRST_WORD - word;
                }
            }
            return OTHER;
        }

        private boolean isWordAt(int begin, String name) {
            int behind = begin + name.length();
            if (behind > tape.length || (behind < tape.length && isLetter(behind))) {
                return false;
            }
            for (int i = 0; i < name.length(); i++) {
                if (tape.bytes[begin + i] != name.charAt(i)) {
                    return false;
                }
            }
            return true;
        }

        private static String nameOf(int word) {
            switch (word) {
                case POTTER:
                    return "potter";
                case HUSBAND:
                    return "husband";
                case SON:
                    return "son";
                case FATHER:
                    return "father";
                case PARTNER:
                    return "partner";
                case STRANGER:
                    return "stranger";
                case BOY:
                    return "boy";
                case RIFT_WORD:
                    return "rift";
                case PAIR_WORD:
                    return "pair";
                case CLAY_WORD:
                    return "clay";
                case HEAT_WORD:
                    return "heat";
                case CARE_WORD:
                    return "care";
                default:
                    return "years";
            }
        }

        private boolean isLetter(int i) {
            return tape.bytes[i] >= 'a' && tape.bytes[i] <= 'z';
        }

        private boolean isDigit(int i) {
            return tape.bytes[i] >= '0' && tape.bytes[i] <= '9';
        }
    }
}
