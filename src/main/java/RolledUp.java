import java.util.Arrays;

public final class RolledUp {
    public static final int NONE = -1, BAD = -2, STATE = -3, FULL = -4;
    public static final long NO = -4611686018427387904L;

    private static final int NOTHING = -11, OUTSIDE = -12, OTHER_SORT = -13, BELOW_ZERO = -14;

    private static final int STONES = 8, PEOPLE = 5, KINDS = 6, WETS = 10, DAY = 24;
    private static final int MOST_YARDS = 99, MOST_DIGIT = 9, MOST_HOUR = 9999;
    private static final int TEXTS = 6, TAPE = 160, FAULT_BASE = -100;
    private static final int SHEETS = 4, ITEMS = 40, SORTS = 3, MOST_TRIPLES = 13;
    private static final int MOST_SHAKEN = 8, MOST_ROUNDS = 30, MOST_SEEDS = 20;

    /** What is told of one; the first five are numbered as set() and told() number them. */
    private static final int PLACE = 0, YARDS = 1, WET = 2, LOAD = 3, NUMBER = 4, KIND = 5, TRAITS = 6;

    private static final String FIRST_RULE = "wants 0 ; takes wet ; lends 1 + rain ;";

    private final State now = new State();
    private final State kept = new State();
    private final State dream = new State();
    private final Text[] texts = new Text[TEXTS];
    private final int[] tape = new int[TAPE];
    private final Sheet[] sheets = new Sheet[SHEETS];
    private final Parser parser = new Parser();
    private final Goer goer = new Goer();
    private final Goer second = new Goer();
    private final Search search = new Search();
    private boolean hasImage;
    private int textCount;
    private int tapeSize;

    public RolledUp() {
        for (int i = 0; i < SHEETS; i++) {
            sheets[i] = new Sheet();
        }
        for (int i = 0; i < FIRST_RULE.length() && i < TAPE; i++) {
            tape[i] = FIRST_RULE.charAt(i);
        }
        parser.parse(tape, FIRST_RULE.length());
        texts[0] = parser.newText();
        textCount = 1;
    }

    // ---- mud, people

    public int mud(int from, int to, int v) {
        int was = far(from, to);
        return was != BAD && now.putMud(from, to, v) ? was : BAD;
    }

    public int far(int from, int to) {
        return areTwoStones(from, to) ? now.mudBetween(from, to) : BAD;
    }

    public int one(int kind, int what, int load) {
        if (!isWithin(kind, KINDS - 1) || !isWithin(what, MOST_YARDS * 10 + MOST_DIGIT) || !isWithin(load, MOST_DIGIT)) {
            return BAD;
        }
        if (now.people >= PEOPLE) {
            return FULL;
        }
        int one = now.people;
        now.people++;
        now.put(one, PLACE, 0);
        now.put(one, YARDS, what / 10);
        now.put(one, WET, 0);
        now.put(one, LOAD, load);
        now.put(one, NUMBER, what % 10);
        now.put(one, KIND, kind);
        return one;
    }

    public int set(int what, int of, int v) {
        int was;
        switch (what) {
            case 5:
                if (!isWithin(v, MOST_HOUR)) {
                    return BAD;
                }
                was = now.hour;
                now.hour = v;
                return was;
            case 6:
                if (!isWithin(of, DAY - 1) || !isWithin(v, MOST_DIGIT)) {
                    return BAD;
                }
                was = now.rain[of];
                now.rain[of] = v;
                return was;
            default:
                if (!isWithin(what, NUMBER) || !now.isOne(of) || !isWithin(v, mostOf(what))) {
                    return BAD;
                }
                was = now.trait(of, what);
                now.put(of, what, v);
                return was;
        }
    }

    public int told(int one, int what) {
        if (!now.isOne(one)) {
            return BAD;
        }
        switch (what) {
            case 6:
                goer.be(now, one, ruleOf(now));
                return goer.reaches();
            case 7:
                return now.owes(one);
            case 8:
                return now.isOwed(one);
            default:
                return isWithin(what, KIND) ? now.trait(one, what) : BAD;
        }
    }

    // ---- texts

    public int feed(int letter) {
        if (!isWithin(letter, 255)) {
            return BAD;
        }
        if (tapeSize >= TAPE) {
            return FULL;
        }
        tape[tapeSize] = letter;
        tapeSize++;
        return tapeSize;
    }

    public int text() {
        if (textCount >= TEXTS) {
            return FULL;
        }
        int fault = parser.parse(tape, tapeSize);
        tapeSize = 0;
        if (fault != NONE) {
            return FAULT_BASE - fault;
        }
        texts[textCount] = parser.newText();
        textCount++;
        return textCount - 1;
    }

    public int force(int text) {
        if (!isWithin(text, textCount - 1)) {
            return BAD;
        }
        int was = now.rule;
        now.rule = text;
        return was;
    }

    // ---- going

    public int can(int one, int to, int what) {
        if (!now.isOne(one) || !isStone(to) || !isWithin(what, 1)) {
            return BAD;
        }
        goer.be(now, one, ruleOf(now));
        int from = now.trait(one, PLACE);
        int hours = goer.hours(from, to, now.mudBetween(from, to));
        if (what == 0) {
            return hours > 0 ? 1 : 0;
        }
        return hours > 0 ? hours : NONE;
    }

    public int go(int one, int to) {
        if (!now.isOne(one) || !isStone(to)) {
            return BAD;
        }
        return moves(now, one, to) ? now.hour : STATE;
    }

    public int soonest(int one, int to, int what) {
        if (!now.isOne(one) || !isStone(to) || !isWithin(what, 1)) {
            return BAD;
        }
        seek(one, to, now.rainNow());
        return what == 0 ? search.hoursFound() : search.firstFound();
    }

    public int together(int one, int other, int to) {
        if (!areTwoPeople(one, other) || !isStone(to)) {
            return BAD;
        }
        if (!areOnOneStone(one, other)) {
            return STATE;
        }
        goer.be(now, one, ruleOf(now));
        second.be(now, other, ruleOf(now));
        int reached = 1 << now.trait(one, PLACE);
        for (int ways = 0; ways < STONES; ways++) {
            if ((reached >> to & 1) != 0) {
                return ways;
            }
            reached |= pooledFrom(reached);
        }
        return NONE;
    }

    // ---- yards owed

    public int lend(int one, int other, int yards) {
        if (!areTwoPeople(one, other) || !isWithin(yards, MOST_YARDS) || yards == 0) {
            return BAD;
        }
        int left = now.trait(one, YARDS) - yards;
        int had = now.trait(other, YARDS) + yards;
        int owes = now.debt(other, one) + yards;
        if (!areOnOneStone(one, other) || left < 0 || had > MOST_YARDS || owes > MOST_YARDS) {
            return STATE;
        }
        goer.be(now, one, ruleOf(now));
        int cost = goer.lends(now.trait(one, PLACE));
        now.put(one, YARDS, left);
        now.put(other, YARDS, had);
        now.putDebt(other, one, owes);
        return cost * yards;
    }

    public int owed(int one, int other) {
        return now.isOne(one) && now.isOne(other) ? now.debt(one, other) : BAD;
    }

    public int rings() {
        int taken = 0;
        for (int a = 0; a < PEOPLE; a++) {
            for (int b = a + 1; b < PEOPLE; b++) {
                taken += now.closeTwo(a, b);
            }
        }
        for (int a = 0; a < PEOPLE; a++) {
            for (int b = a + 1; b < PEOPLE; b++) {
                for (int c = b + 1; c < PEOPLE; c++) {
                    taken += now.closeThree(a, b, c);
                    taken += now.closeThree(a, c, b);
                }
            }
        }
        return taken;
    }

    // ---- thieves, prints, rain, roads

    public int shaken(int one, int thief) {
        if (!areTwoPeople(one, thief)) {
            return BAD;
        }
        if (!areOnOneStone(one, thief)) {
            return STATE;
        }
        goer.be(now, one, ruleOf(now));
        second.be(now, thief, ruleOf(now));
        // How wet both are hangs on the number of ways alone, so the stones they may be on are enough.
        int reached = 1 << now.trait(one, PLACE);
        for (int ways = 1; ways <= MOST_SHAKEN; ways++) {
            int next = followedFrom(reached);
            if (next == NONE) {
                return ways;
            }
            reached = next;
            goer.soak();
            second.soak();
        }
        return NONE;
    }

    public int prints(int sheet) {
        if (!isWithin(sheet, SHEETS - 1)) {
            return BAD;
        }
        Sheet told = sheets[sheet];
        if (told.isMissing()) {
            return NOTHING;
        }
        if (told.size < 2 || !tellsStones(told)) {
            return BAD;
        }
        int bits = 0;
        for (int one = 0; one < now.people; one++) {
            if (canFollow(one, told)) {
                bits |= 1 << one;
            }
        }
        return bits;
    }

    public int out(int one, int to, int what) {
        if (!now.isOne(one) || !isStone(to) || !isWithin(what, 1)) {
            return BAD;
        }
        int bestWait = NONE;
        int bestAll = NONE;
        for (int wait = 0; wait < DAY; wait++) {
            int rain = now.rainIn(wait);
            if (wasRainSeen(rain, wait)) {
                continue;
            }
            seek(one, to, rain);
            int hours = search.hoursFound();
            if (hours != NONE && (bestAll == NONE || wait + hours < bestAll)) {
                bestWait = wait;
                bestAll = wait + hours;
            }
        }
        return what == 0 ? bestWait : bestAll;
    }

    public int road(int to, int what) {
        if (!isStone(to) || !isWithin(what, 2)) {
            return BAD;
        }
        search.clearRoads();
        for (int one = 0; one < now.people; one++) {
            goer.be(now, one, ruleOf(now));
            search.tryRoads(goer, now, now.trait(one, PLACE), to);
        }
        int road = search.bestRoad();
        switch (what) {
            case 0:
                return road / STONES * 10 + road % STONES;
            case 1:
                return search.comersBy(road);
            default:
                return search.hoursBy(road);
        }
    }

    public int judge(int sheet) {
        if (!isWithin(sheet, SHEETS - 1)) {
            return BAD;
        }
        Sheet told = sheets[sheet];
        if (told.isMissing()) {
            return NOTHING;
        }
        if (told.size % 2 != 0) {
            return BAD;
        }
        dream.become(now);
        for (int row = 0; row < told.size / 2; row++) {
            int one = told.item(2 * row);
            int to = told.item(2 * row + 1);
            if (!dream.isOne(one) || !isStone(to) || !moves(dream, one, to)) {
                return row;
            }
        }
        return NONE;
    }

    public int drawn(int seed, int n, int to) {
        if (!isWithin(n, MOST_ROUNDS) || !isStone(to)) {
            return BAD;
        }
        return drawnTo(seed, n, to);
    }

    public long chance(int seed, int seeds, int n, int to, int part) {
        if (!isWithin(seeds, MOST_SEEDS) || seeds == 0 || !isWithin(n, MOST_ROUNDS) || !isStone(to) || !isWithin(part, 1)) {
            return NO;
        }
        int hits = 0;
        for (int i = 0; i < seeds; i++) {
            if (drawnTo(seed + i, n, to) > 0) {
                hits++;
            }
        }
        int measure = commonMeasure(hits, seeds);
        return part == 0 ? hits / measure : seeds / measure;
    }

    public int image() {
        kept.become(now);
        hasImage = true;
        return kept.people;
    }

    public int back() {
        if (!hasImage) {
            return STATE;
        }
        now.become(kept);
        return now.people;
    }

    public int count(int what) {
        switch (what) {
            case 0:
                return now.people;
            case 1:
                return now.muddyPairs();
            case 2:
                return now.hour;
            case 3:
                return now.rainNow();
            case 4:
                return textCount;
            case 5:
                return tapeSize;
            case 6:
                return now.rule;
            case 7:
                return now.allDebts();
            default:
                return BAD;
        }
    }

    // ---- the host

    public int sheet(int sheet, int sort, int n) {
        if (!isWithin(sheet, SHEETS - 1) || sort < NONE || sort >= SORTS) {
            return BAD;
        }
        if (sort == NONE) {
            sheets[sheet].become(NONE, 0);
            return 1;
        }
        if (n > ITEMS) {
            return BAD;
        }
        if (n < 0) {
            return BELOW_ZERO;
        }
        sheets[sheet].become(sort, n);
        return 1;
    }

    public int cell(int sheet, int i, int v) {
        if (!isWithin(sheet, SHEETS - 1)) {
            return BAD;
        }
        Sheet told = sheets[sheet];
        if (told.isMissing()) {
            return NOTHING;
        }
        if (!isWithin(i, told.size - 1)) {
            return OUTSIDE;
        }
        told.put(i, v);
        return 1;
    }

    public int copy(int sheet, int i, int other, int j, int n) {
        if (!isWithin(sheet, SHEETS - 1) || !isWithin(other, SHEETS - 1)) {
            return BAD;
        }
        Sheet source = sheets[sheet];
        Sheet goal = sheets[other];
        if (source.isMissing() || goal.isMissing()) {
            return NOTHING;
        }
        if (source.sort != goal.sort) {
            return OTHER_SORT;
        }
        if (!source.hasRun(i, n) || !goal.hasRun(j, n)) {
            return OUTSIDE;
        }
        System.arraycopy(source.items, i, goal.items, j, n);
        return n;
    }

    public int muds(int sheet, int sort, int from, int n) {
        if (!isWithin(sheet, SHEETS - 1) || !isWithin(sort, SORTS - 1) || !isWithin(n, MOST_TRIPLES)) {
            return BAD;
        }
        Sheet told = sheets[sheet];
        if (told.isMissing()) {
            return NOTHING;
        }
        if (told.sort != sort) {
            return OTHER_SORT;
        }
        int became = 0;
        for (int k = 0; k < n; k++) {
            int at = from + 3 * k;
            if (!told.hasRun(at, 3)) {
                return OUTSIDE;
            }
            if (now.putMud(told.item(at), told.item(at + 1), told.item(at + 2))) {
                became++;
            }
        }
        return became;
    }

    public int taken(int one, int k) {
        if (!isWithin(k, KINDS - 1)) {
            return BAD;
        }
        if (!now.isOne(one)) {
            return NOTHING;
        }
        return Rug.isUnder(now.trait(one, KIND), k) ? now.trait(one, NUMBER) : OTHER_SORT;
    }

    // ---- what the calls share

    private static boolean isWithin(int v, int most) {
        return v >= 0 && v <= most;
    }

    private static int bounded(int v, int least, int most) {
        return Math.max(least, Math.min(most, v));
    }

    private static boolean isStone(int stone) {
        return isWithin(stone, STONES - 1);
    }

    private static boolean areTwoStones(int from, int to) {
        return isStone(from) && isStone(to) && from != to;
    }

    private boolean areTwoPeople(int one, int other) {
        return now.isOne(one) && now.isOne(other) && one != other;
    }

    private boolean areOnOneStone(int one, int other) {
        return now.trait(one, PLACE) == now.trait(other, PLACE);
    }

    private static int mostOf(int trait) {
        switch (trait) {
            case PLACE:
                return STONES - 1;
            case YARDS:
                return MOST_YARDS;
            default:
                return MOST_DIGIT;
        }
    }

    private Text ruleOf(State state) {
        return isWithin(state.rule, textCount - 1) ? texts[state.rule] : texts[0];
    }

    private boolean moves(State state, int one, int to) {
        goer.be(state, one, ruleOf(state));
        int from = state.trait(one, PLACE);
        int hours = goer.hours(from, to, state.mudBetween(from, to));
        if (hours == 0) {
            return false;
        }
        goer.soak();
        state.put(one, PLACE, to);
        state.put(one, WET, goer.wet);
        state.hour = Math.min(MOST_HOUR, state.hour + hours);
        return true;
    }

    private void seek(int one, int to, int rain) {
        goer.be(now, one, ruleOf(now));
        goer.rain = rain;
        search.forget();
        search.seek(goer, now, now.trait(one, PLACE), to);
    }

    private int pooledFrom(int reached) {
        int next = 0;
        int reach = goer.reaches() + second.reaches();
        for (int from = 0; from < STONES; from++) {
            for (int to = 0; to < STONES; to++) {
                int mud = now.mudBetween(from, to);
                if ((reached >> from & 1) == 0 || mud == 0) {
                    continue;
                }
                if (reach >= mud + goer.wants(from, to, mud) + second.wants(from, to, mud)) {
                    next |= 1 << to;
                }
            }
        }
        return next;
    }

    /** The stones to which both can go; NONE, if there is a way on which the second stays behind. */
    private int followedFrom(int reached) {
        int next = 0;
        for (int from = 0; from < STONES; from++) {
            for (int to = 0; to < STONES; to++) {
                int mud = now.mudBetween(from, to);
                if ((reached >> from & 1) == 0 || !goer.crosses(from, to, mud)) {
                    continue;
                }
                if (!second.crosses(from, to, mud)) {
                    return NONE;
                }
                next |= 1 << to;
            }
        }
        return next;
    }

    private static boolean tellsStones(Sheet told) {
        for (int i = 0; i < told.size; i++) {
            if (!isStone(told.item(i))) {
                return false;
            }
        }
        return true;
    }

    private boolean canFollow(int one, Sheet told) {
        goer.be(now, one, ruleOf(now));
        for (int i = 1; i < told.size; i++) {
            int from = told.item(i - 1);
            int to = told.item(i);
            if (!goer.crosses(from, to, now.mudBetween(from, to))) {
                return false;
            }
            goer.soak();
        }
        return true;
    }

    /** Like rain means like hours, so a later hour with rain that was seen can't be better. */
    private boolean wasRainSeen(int rain, int wait) {
        for (int earlier = 0; earlier < wait; earlier++) {
            if (now.rainIn(earlier) == rain) {
                return true;
            }
        }
        return false;
    }

    private int drawnTo(int seed, int n, int to) {
        dream.become(now);
        int z = seed;
        for (int round = 0; round < n; round++) {
            for (int one = 0; one < dream.people; one++) {
                z = z * 1103515245 + 12345;
                moves(dream, one, (z >>> 9) % STONES);
            }
        }
        int there = 0;
        for (int one = 0; one < dream.people; one++) {
            if (dream.trait(one, PLACE) == to) {
                there++;
            }
        }
        return there;
    }

    /** At least 1; with no hits it is all seeds, so that the line reads 0 over 1. */
    private static int commonMeasure(int hits, int seeds) {
        for (int measure = seeds; measure > 1; measure--) {
            if (hits % measure == 0 && seeds % measure == 0) {
                return measure;
            }
        }
        return 1;
    }

    /** All that an image keeps. */
    private static final class State {
        private final int[] mud = new int[STONES * STONES];
        private final int[] traits = new int[PEOPLE * TRAITS];
        private final int[] debts = new int[PEOPLE * PEOPLE];
        final int[] rain = new int[DAY];
        int people;
        int hour;
        int rule;

        void become(State other) {
            System.arraycopy(other.mud, 0, mud, 0, mud.length);
            System.arraycopy(other.traits, 0, traits, 0, traits.length);
            System.arraycopy(other.debts, 0, debts, 0, debts.length);
            System.arraycopy(other.rain, 0, rain, 0, rain.length);
            people = other.people;
            hour = other.hour;
            rule = other.rule;
        }

        boolean isOne(int one) {
            return isWithin(one, people - 1) && one < PEOPLE;
        }

        int trait(int one, int what) {
            return isOne(one) && isWithin(what, TRAITS - 1) ? traits[one * TRAITS + what] : 0;
        }

        void put(int one, int what, int v) {
            if (isOne(one) && isWithin(what, TRAITS - 1)) {
                traits[one * TRAITS + what] = v;
            }
        }

        int mudBetween(int from, int to) {
            return areTwoStones(from, to) ? mud[from * STONES + to] : 0;
        }

        boolean putMud(int from, int to, int v) {
            if (!areTwoStones(from, to) || !isWithin(v, MOST_YARDS)) {
                return false;
            }
            mud[from * STONES + to] = v;
            mud[to * STONES + from] = v;
            return true;
        }

        int muddyPairs() {
            int pairs = 0;
            for (int from = 0; from < STONES; from++) {
                for (int to = from + 1; to < STONES; to++) {
                    if (mudBetween(from, to) > 0) {
                        pairs++;
                    }
                }
            }
            return pairs;
        }

        int rainNow() {
            return rainIn(0);
        }

        int rainIn(int wait) {
            return rain[Math.floorMod(hour + wait, DAY)];
        }

        int debt(int one, int other) {
            return isOne(one) && isOne(other) ? debts[one * PEOPLE + other] : 0;
        }

        void putDebt(int one, int other, int yards) {
            if (isOne(one) && isOne(other)) {
                debts[one * PEOPLE + other] = yards;
            }
        }

        int owes(int one) {
            int yards = 0;
            for (int other = 0; other < people; other++) {
                yards += debt(one, other);
            }
            return yards;
        }

        int isOwed(int one) {
            int yards = 0;
            for (int other = 0; other < people; other++) {
                yards += debt(other, one);
            }
            return yards;
        }

        int allDebts() {
            int yards = 0;
            for (int one = 0; one < people; one++) {
                yards += owes(one);
            }
            return yards;
        }

        int closeTwo(int a, int b) {
            int least = Math.min(debt(a, b), debt(b, a));
            putDebt(a, b, debt(a, b) - least);
            putDebt(b, a, debt(b, a) - least);
            return least;
        }

        int closeThree(int a, int b, int c) {
            int least = Math.min(debt(a, b), Math.min(debt(b, c), debt(c, a)));
            putDebt(a, b, debt(a, b) - least);
            putDebt(b, c, debt(b, c) - least);
            putDebt(c, a, debt(c, a) - least);
            return least;
        }
    }

    /** What the kinds do; only the last answer is kept within bounds, not one that another kind builds on. */
    private static final class Rug {
        private static final int LONG = 1, TARRED = 2, DOUBLE = 3, OILED = 4, RAGGED = 5;
        private static final int[] ABOVE = {-1, 0, 0, 1, 2, 1};

        static boolean isUnder(int kind, int asked) {
            int at = kind;
            for (int step = 0; step < KINDS && isWithin(at, KINDS - 1); step++) {
                if (at == asked) {
                    return true;
                }
                at = ABOVE[at];
            }
            return false;
        }

        static int reaches(int kind, int number, int yards, int wet) {
            switch (kind) {
                case LONG:
                    return yards + number;
                case TARRED:
                    return Math.max(0, yards - wet / 2);
                case DOUBLE:
                    return (yards + number) / 2;
                case OILED:
                    return wet > number ? Math.max(0, yards - wet / 2) : yards;
                case RAGGED:
                    return Math.max(0, yards + number - wet);
                default:
                    return yards;
            }
        }

        static int lasts(int kind, int number, int mud, int load) {
            switch (kind) {
                case LONG:
                    return Math.max(1, mud + load);
                case TARRED:
                case OILED:
                    return Math.max(1, mud - number);
                case DOUBLE:
                    return Math.max(1, 2 * (mud + load));
                case RAGGED:
                    return Math.max(1, mud + load + number);
                default:
                    return Math.max(1, mud);
            }
        }

        static int soaks(int kind, int wet, int rain) {
            int all = wet + rain;
            switch (kind) {
                case TARRED:
                    return bounded(all / 2, 0, WETS - 1);
                case DOUBLE:
                    return bounded(all + 1, 0, WETS - 1);
                case OILED:
                    return bounded(wet, 0, WETS - 1);
                case RAGGED:
                    return bounded(2 * all, 0, WETS - 1);
                default:
                    return bounded(all, 0, WETS - 1);
            }
        }
    }

    /** One who would go, in thought: what of it and of the weather a way hangs on. */
    private static final class Goer {
        private final int[] named = new int[Text.NAMES];
        private final int[] stack = new int[Text.STACK];
        private Text rule;
        private int kind;
        private int number;
        private int yards;
        private int load;
        int wet;
        int rain;

        void be(State state, int one, Text itsRule) {
            rule = itsRule;
            kind = state.trait(one, KIND);
            number = state.trait(one, NUMBER);
            yards = state.trait(one, YARDS);
            load = state.trait(one, LOAD);
            wet = state.trait(one, WET);
            rain = state.rainNow();
        }

        int reaches() {
            return Rug.reaches(kind, number, yards, wet);
        }

        int wants(int from, int to, int mud) {
            return asked(Text.WANTS, from, to, mud);
        }

        int lends(int stone) {
            return asked(Text.LENDS, stone, stone, 0);
        }

        boolean crosses(int from, int to, int mud) {
            return mud > 0 && reaches() >= mud + wants(from, to, mud);
        }

        /** 0, if it can't go there: a way that can be gone takes 1 at least. */
        int hours(int from, int to, int mud) {
            if (mud <= 0 || reaches() < mud + asked(Text.WANTS, from, to, mud)) {
                return 0;
            }
            return Rug.lasts(kind, number, mud, load) + asked(Text.TAKES, from, to, mud);
        }

        void soak() {
            wet = Rug.soaks(kind, wet, rain);
        }

        private int asked(int part, int from, int to, int mud) {
            if (rule == null) {
                return 0;
            }
            named[0] = mud;
            named[1] = wet;
            named[2] = load;
            named[3] = rain;
            named[4] = from;
            named[5] = to;
            return bounded(rule.value(part, named, stack), 0, MOST_YARDS);
        }
    }

    /** Hours of all ways for one goer, by how wet it is; kept, as each asks the rule twice. */
    private static final class Ways {
        private final int[] hours = new int[WETS * STONES * STONES];
        private int knownWets;

        void forget() {
            knownWets = 0;
        }

        /** With a plank there is MUD of 1 between all stones. */
        void learn(Goer goer, State state, boolean isPlanked) {
            int wet = goer.wet;
            if (!isWithin(wet, WETS - 1) || (knownWets >> wet & 1) != 0) {
                return;
            }
            knownWets |= 1 << wet;
            int at = wet * STONES * STONES;
            for (int from = 0; from < STONES; from++) {
                for (int to = 0; to < STONES; to++) {
                    int mud = isPlanked && from != to ? 1 : state.mudBetween(from, to);
                    hours[at] = goer.hours(from, to, mud);
                    at++;
                }
            }
        }

        int between(int wet, int from, int to) {
            return isWithin(wet, WETS - 1) && isStone(from) && isStone(to) ? hours[(wet * STONES + from) * STONES + to] : 0;
        }
    }

    /** SOONEST, way by way: with like rain all along, how wet a rug is hangs on the number of ways alone. */
    private static final class Search {
        private static final int NEVER = 1000000;
        /**
         * What a way leaves of wet grows with wet, so from way to way it only rises, or only falls, and stands
         * after 9 ways at the latest; from there on no stone is worth seeing twice, which leaves 7 more.
         */
        private static final int MOST_WAYS = 9 + STONES - 1;

        private final Ways bare = new Ways();
        private final Ways planked = new Ways();
        private final int[] hours = new int[STONES];
        private final int[] firsts = new int[STONES];
        private final int[] nextHours = new int[STONES];
        private final int[] nextFirsts = new int[STONES];
        private final int[] comers = new int[STONES * STONES];
        private final int[] roadHours = new int[STONES * STONES];
        private int plankFrom = NONE;
        private int plankTo = NONE;
        private int best;
        private int bestFirst;

        void forget() {
            bare.forget();
            planked.forget();
        }

        int hoursFound() {
            return best < NEVER ? best : NONE;
        }

        int firstFound() {
            return bestFirst;
        }

        void seek(Goer goer, State state, int from, int to) {
            best = from == to ? 0 : NEVER;
            bestFirst = NONE;
            if (!areTwoStones(from, to)) {
                return;
            }
            int wetAtFirst = goer.wet;
            Arrays.fill(hours, NEVER);
            Arrays.fill(firsts, NONE);
            hours[from] = 0;
            for (int way = 0; way < MOST_WAYS; way++) {
                bare.learn(goer, state, false);
                if (plankFrom != NONE) {
                    planked.learn(goer, state, true);
                }
                step(goer.wet);
                noteArrival(to);
                goer.soak();
            }
            goer.wet = wetAtFirst;
        }

        private void step(int wet) {
            Arrays.fill(nextHours, NEVER);
            Arrays.fill(nextFirsts, NONE);
            for (int from = 0; from < STONES; from++) {
                for (int to = 0; hours[from] < best && to < STONES; to++) {
                    int more = between(wet, from, to);
                    if (more > 0) {
                        offer(to, hours[from] + more, firsts[from] == NONE ? to : firsts[from]);
                    }
                }
            }
            System.arraycopy(nextHours, 0, hours, 0, STONES);
            System.arraycopy(nextFirsts, 0, firsts, 0, STONES);
        }

        private int between(int wet, int from, int to) {
            boolean isPlank = from == plankFrom && to == plankTo || from == plankTo && to == plankFrom;
            return isPlank ? planked.between(wet, from, to) : bare.between(wet, from, to);
        }

        private void offer(int stone, int itsHours, int itsFirst) {
            if (itsHours < nextHours[stone] || itsHours == nextHours[stone] && itsFirst < nextFirsts[stone]) {
                nextHours[stone] = itsHours;
                nextFirsts[stone] = itsFirst;
            }
        }

        private void noteArrival(int to) {
            if (hours[to] == NEVER || hours[to] > best) {
                return;
            }
            if (hours[to] < best || firsts[to] < bestFirst) {
                best = hours[to];
                bestFirst = firsts[to];
            }
        }

        void clearRoads() {
            Arrays.fill(comers, 0);
            Arrays.fill(roadHours, 0);
        }

        void tryRoads(Goer goer, State state, int from, int to) {
            forget();
            for (int a = 0; a < STONES; a++) {
                for (int b = a + 1; b < STONES; b++) {
                    plankFrom = a;
                    plankTo = b;
                    seek(goer, state, from, to);
                    if (best < NEVER) {
                        comers[a * STONES + b]++;
                        roadHours[a * STONES + b] += best;
                    }
                }
            }
            plankFrom = NONE;
            plankTo = NONE;
        }

        int bestRoad() {
            int road = 1;
            for (int a = 0; a < STONES; a++) {
                for (int b = a + 1; b < STONES; b++) {
                    int other = a * STONES + b;
                    if (comers[other] > comers[road] || comers[other] == comers[road] && roadHours[other] < roadHours[road]) {
                        road = other;
                    }
                }
            }
            return road;
        }

        int comersBy(int road) {
            return isWithin(road, STONES * STONES - 1) ? comers[road] : 0;
        }

        int hoursBy(int road) {
            return isWithin(road, STONES * STONES - 1) ? roadHours[road] : 0;
        }
    }

    /** A row of numbers, or missing. */
    private static final class Sheet {
        private static final int BYTES = 0, SHORTS = 1;
        final int[] items = new int[ITEMS];
        int sort = NONE;
        int size;

        boolean isMissing() {
            return sort == NONE;
        }

        void become(int itsSort, int itsSize) {
            sort = itsSort;
            size = bounded(itsSize, 0, ITEMS);
            Arrays.fill(items, 0);
        }

        int item(int i) {
            return isWithin(i, size - 1) ? items[i] : NONE;
        }

        void put(int i, int v) {
            if (isWithin(i, size - 1)) {
                items[i] = sort == BYTES ? (byte) v : sort == SHORTS ? (short) v : v;
            }
        }

        /** Told by what is left behind the place: a place and a length together may wrap. */
        boolean hasRun(int from, int n) {
            return from >= 0 && n >= 0 && n <= size - from;
        }
    }

    /** A text that was read: its three parts one behind the other, each operator behind what it works on. */
    private static final class Text {
        static final int WANTS = 0, TAKES = 1, LENDS = 2, PARTS = 3;
        static final int NAMES = 6;
        /** Five brackets, and six Es with a number waiting at or, and, <, +, * in each. */
        static final int STACK = 32;
        /** In the code what is not below 0 is a number, then come the names, down from -1. */
        static final int FIRST_NAME = -1;
        static final int OR = -11, AND = -12, NOT = -13, LESS = -14, LIKE = -15;
        static final int PLUS = -16, MINUS = -17, TIMES = -18, NEGATE = -19;

        private final int[] code;
        private final int[] ends;

        Text(int[] itsCode, int[] itsEnds) {
            code = itsCode;
            ends = itsEnds;
        }

        int value(int part, int[] named, int[] stack) {
            if (!isWithin(part, PARTS - 1)) {
                return 0;
            }
            int top = 0;
            for (int i = part == 0 ? 0 : ends[part - 1]; i < ends[part]; i++) {
                int op = code[i];
                int name = FIRST_NAME - op;
                if (op >= 0 || name < NAMES) {
                    if (top < STACK) {
                        stack[top] = op >= 0 ? op : named[name];
                        top++;
                    }
                } else if (op == NOT || op == NEGATE) {
                    if (top >= 1) {
                        stack[top - 1] = ofOne(op, stack[top - 1]);
                    }
                } else if (top >= 2) {
                    stack[top - 2] = ofTwo(op, stack[top - 2], stack[top - 1]);
                    top--;
                }
            }
            return stack[0];
        }

        private static int ofOne(int op, int v) {
            if (op == NEGATE) {
                return -v;
            }
            return v == 0 ? 1 : 0;
        }

        private static int ofTwo(int op, int left, int right) {
            switch (op) {
                case OR:
                    return left != 0 || right != 0 ? 1 : 0;
                case AND:
                    return left != 0 && right != 0 ? 1 : 0;
                case LESS:
                    return left < right ? 1 : 0;
                case LIKE:
                    return left == right ? 1 : 0;
                case PLUS:
                    return left + right;
                case MINUS:
                    return left - right;
                default:
                    return left * right;
            }
        }
    }

    /** Reads a text; each reading method stops at the first token that can't stand there and leaves it unread. */
    private static final class Parser {
        private static final int END = 0, BROKEN = 1, NUMBER_TOKEN = 2;
        /** Signs are tokens by their bytes; words stand above all bytes, in this order. */
        private static final int FIRST_WORD = 256;
        private static final String WORDS = "mud wet load rain from to wants takes lends or and not ";
        private static final int WANTS_WORD = FIRST_WORD + Text.NAMES;
        private static final int OR_WORD = WANTS_WORD + 3, AND_WORD = WANTS_WORD + 4, NOT_WORD = WANTS_WORD + 5;
        private static final int MOST_OPEN = 5, MOST_DIGITS = 4;

        private final int[] code = new int[TAPE];
        private final int[] ends = new int[Text.PARTS];
        private int codeSize;
        private int[] bytes;
        private int size;
        private int token;
        private int number;
        private int at;
        private int behind;

        /** The place of the fault, or NONE. */
        int parse(int[] itsBytes, int itsSize) {
            bytes = itsBytes;
            size = bounded(itsSize, 0, Math.min(TAPE, itsBytes.length));
            codeSize = 0;
            behind = 0;
            advance();
            for (int part = 0; part < Text.PARTS; part++) {
                if (!takes(WANTS_WORD + part) || !readsEither(0) || !takes(';')) {
                    return at;
                }
                ends[part] = codeSize;
            }
            return token == END ? NONE : at;
        }

        Text newText() {
            return new Text(Arrays.copyOf(code, codeSize), Arrays.copyOf(ends, Text.PARTS));
        }

        private boolean readsEither(int open) {
            if (!readsBoth(open)) {
                return false;
            }
            for (int i = 0; i < TAPE && takes(OR_WORD); i++) {
                if (!readsBoth(open)) {
                    return false;
                }
                emit(Text.OR);
            }
            return true;
        }

        private boolean readsBoth(int open) {
            if (!readsNot(open)) {
                return false;
            }
            for (int i = 0; i < TAPE && takes(AND_WORD); i++) {
                if (!readsNot(open)) {
                    return false;
                }
                emit(Text.AND);
            }
            return true;
        }

        private boolean readsNot(int open) {
            if (token == NOT_WORD) {
                if (!opens(open) || !readsNot(open + 1)) {
                    return false;
                }
                emit(Text.NOT);
                return true;
            }
            if (!readsSum(open)) {
                return false;
            }
            int sign = token;
            if (sign != '<' && sign != '=') {
                return true;
            }
            advance();
            if (!readsSum(open)) {
                return false;
            }
            emit(sign == '<' ? Text.LESS : Text.LIKE);
            return true;
        }

        private boolean readsSum(int open) {
            if (!readsTerm(open)) {
                return false;
            }
            for (int i = 0; i < TAPE && (token == '+' || token == '-'); i++) {
                int sign = token;
                advance();
                if (!readsTerm(open)) {
                    return false;
                }
                emit(sign == '+' ? Text.PLUS : Text.MINUS);
            }
            return true;
        }

        private boolean readsTerm(int open) {
            if (!readsOne(open)) {
                return false;
            }
            for (int i = 0; i < TAPE && takes('*'); i++) {
                if (!readsOne(open)) {
                    return false;
                }
                emit(Text.TIMES);
            }
            return true;
        }

        private boolean readsOne(int open) {
            if (token == NUMBER_TOKEN) {
                emit(number);
                advance();
                return true;
            }
            if (token >= FIRST_WORD && token < WANTS_WORD) {
                emit(Text.FIRST_NAME - (token - FIRST_WORD));
                advance();
                return true;
            }
            if (token == '-') {
                if (!opens(open) || !readsOne(open + 1)) {
                    return false;
                }
                emit(Text.NEGATE);
                return true;
            }
            return token == '(' && opens(open) && readsEither(open + 1) && takes(')');
        }

        /** Goes on behind a token that opens something, unless too many are open. */
        private boolean opens(int open) {
            if (open >= MOST_OPEN) {
                return false;
            }
            advance();
            return true;
        }

        private boolean takes(int wanted) {
            if (token != wanted) {
                return false;
            }
            advance();
            return true;
        }

        private void emit(int op) {
            if (codeSize < TAPE) {
                code[codeSize] = op;
                codeSize++;
            }
        }

        private void advance() {
            at = behind;
            while (at < size && (bytes[at] == ' ' || bytes[at] == '\n')) {
                at++;
            }
            behind = at;
            if (at >= size) {
                token = END;
                return;
            }
            int sign = bytes[at];
            if (isLetter(sign)) {
                readWord();
            } else if (isDigit(sign)) {
                readNumber();
            } else {
                behind++;
                token = isSign(sign) ? sign : BROKEN;
            }
        }

        private void readWord() {
            while (behind < size && isLetter(bytes[behind])) {
                behind++;
            }
            token = BROKEN;
            int word = FIRST_WORD;
            int start = 0;
            for (int i = 0; i < WORDS.length(); i++) {
                if (WORDS.charAt(i) == ' ') {
                    if (isSpelled(start, i)) {
                        token = word;
                    }
                    word++;
                    start = i + 1;
                }
            }
        }

        private boolean isSpelled(int start, int end) {
            if (end - start != behind - at) {
                return false;
            }
            for (int i = start; i < end; i++) {
                if (WORDS.charAt(i) != bytes[at + i - start]) {
                    return false;
                }
            }
            return true;
        }

        private void readNumber() {
            number = 0;
            while (behind < size && isDigit(bytes[behind])) {
                number = number * 10 + bytes[behind] - '0';
                behind++;
            }
            token = behind - at > MOST_DIGITS ? BROKEN : NUMBER_TOKEN;
        }

        private static boolean isLetter(int sign) {
            return sign >= 'a' && sign <= 'z';
        }

        private static boolean isDigit(int sign) {
            return sign >= '0' && sign <= '9';
        }

        private static boolean isSign(int sign) {
            switch (sign) {
                case '(':
                case ')':
                case ';':
                case '+':
                case '-':
                case '*':
                case '<':
                case '=':
                    return true;
                default:
                    return false;
            }
        }
    }
}
