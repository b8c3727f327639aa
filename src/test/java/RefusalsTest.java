/**
 * Each refusal of each promise: the first number outside at both ends, and far off; the last that is still taken;
 * where two refusals would fit, the first named; and, by Scene, that a refused call changes nothing.
 */
public final class RefusalsTest {
    private static final int BAD = -2, STATE = -3, FULL = -4, NOTHING = -11, OUTSIDE = -12, OTHER = -13, BELOW = -14;
    private static final long NO = -4611686018427387904L;

    private static final int[] STONE = {0, 7}, ONE = {0, Scene.PEOPLE - 1}, SHEET = {0, 3}, ZERO_ONE = {0, 1};
    private static final int[] FREE = null;

    public static void main(String[] args) {
        mudAndFar();
        one();
        set();
        told();
        feed();
        text();
        force();
        can();
        go();
        soonest();
        together();
        lend();
        owed();
        shaken();
        prints();
        out();
        road();
        judge();
        drawn();
        chance();
        back();
        count();
        sheet();
        cell();
        copy();
        muds();
        taken();
        Check.end();
    }

    private static int[] of(int... numbers) {
        return numbers;
    }

    private static int[][] within(int[]... bounds) {
        return bounds;
    }

    private static void mudAndFar() {
        Scene.bounds("2: mud, BAD", BAD, of(4, 5, 50), within(STONE, STONE, of(0, 99)), (x, a) -> x.mud(a[0], a[1], a[2]));
        Scene.bounds("3: far, BAD", BAD, of(4, 5), within(STONE, STONE), (x, a) -> x.far(a[0], a[1]));
        for (int stone = 0; stone < 8; stone++) {
            int s = stone;
            Scene.still("2: mud, BAD, alike " + s, BAD, x -> x.mud(s, s, 1));
            Scene.still("2: mud, BAD, alike, no way " + s, BAD, x -> x.mud(s, s, 0));
            Scene.still("3: far, BAD, alike " + s, BAD, x -> x.far(s, s));
        }
    }

    private static void one() {
        int[] good = {3, 456, 7};
        int[][] bounds = within(of(0, 5), of(0, 999), of(0, 9));
        Scene.bounds("4: one, BAD", BAD, good, bounds, (x, a) -> x.one(a[0], a[1], a[2]));
        Scene.Step five = x -> x.one(0, 0, 0);
        Scene.still("4: one, FULL: PEOPLE are 5 at most", FULL, five, x -> x.one(3, 456, 7));
        Scene.bounds("4: one, BAD goes ahead of FULL", BAD, five, good, bounds, (x, a) -> x.one(a[0], a[1], a[2]));
    }

    private static void set() {
        Scene.bounds("5: set, BAD what", BAD, of(2, 1, 4), within(of(0, 6), FREE, FREE), (x, a) -> x.set(a[0], a[1], a[2]));
        int[] most = {7, 99, 9, 9, 9};
        for (int what = 0; what < 5; what++) {
            int w = what;
            Scene.bounds("5: set " + w + ", BAD", BAD, of(1, 3), within(ONE, of(0, most[w])), (x, a) -> x.set(w, a[0], a[1]));
        }
        Scene.bounds("5: set HOUR, BAD", BAD, of(30), within(of(0, 9999)), (x, a) -> x.set(5, 0, a[0]));
        Scene.bounds("5: set RAIN, BAD", BAD, of(5, 3), within(of(0, 23), of(0, 9)), (x, a) -> x.set(6, a[0], a[1]));
    }

    private static void told() {
        Scene.bounds("6: told, BAD", BAD, of(1, 4), within(ONE, of(0, 8)), (x, a) -> x.told(a[0], a[1]));
        for (int what = 0; what < 9; what++) {
            int w = what;
            Scene.bounds("6: told " + w + ", BAD one", BAD, of(1), within(ONE), (x, a) -> x.told(a[0], w));
        }
    }

    private static void fillTape(RolledUp x) {
        for (int n = x.count(5) + 1; n <= 160; n++) {
            Check.due("7: the tape takes 160", x.feed(32), n);
        }
    }

    private static void feed() {
        Scene.bounds("7: feed, BAD", BAD, of(65), within(of(0, 255)), (x, a) -> x.feed(a[0]));
        Scene.still("7: feed, FULL: 160 bytes at most", FULL, RefusalsTest::fillTape, x -> x.feed(32));
        Scene.bounds("7: feed, BAD goes ahead of FULL", BAD, RefusalsTest::fillTape, of(65), within(of(0, 255)), (x, a) -> x.feed(a[0]));
    }

    private static void fillTexts(RolledUp x) {
        Check.due("8: the tape of the scene", x.text(), 2);
        for (int n = 3; n < 6; n++) {
            Check.due("8: text " + n, Check.read(x, "wants 0;takes 0;lends " + n + ";"), n);
        }
    }

    private static void text() {
        Scene.still("8: text, FULL, an empty tape", FULL, RefusalsTest::fillTexts, RolledUp::text);
        Scene.still("8: text, FULL, the tape stays", FULL, x -> {
            fillTexts(x);
            for (char c : "wants 1;takes 1;lends 1;".toCharArray()) {
                x.feed(c);
            }
        }, RolledUp::text);
        Scene.still("8: text, FULL, a tape with a fault stays, too", FULL, x -> {
            fillTexts(x);
            x.feed('w');
        }, RolledUp::text);
    }

    private static void force() {
        Scene.bounds("9: force, BAD", BAD, of(0), within(of(0, Scene.TEXTS - 1)), (x, a) -> x.force(a[0]));
        Scene.bounds("9: force, BAD with six texts", BAD, RefusalsTest::fillTexts, of(0), within(of(0, 5)), (x, a) -> x.force(a[0]));
    }

    private static void can() {
        Scene.bounds("10: can, BAD", BAD, of(0, 1, 0), within(ONE, STONE, ZERO_ONE), (x, a) -> x.can(a[0], a[1], a[2]));
        Scene.still("10: can, no way, 0", 0, x -> x.can(0, 5, 0));
        Scene.still("10: can, no way, NONE", -1, x -> x.can(0, 5, 1));
        Scene.still("10: can changes nothing", 1, x -> x.can(0, 1, 0));
        Scene.still("10: can, hours: 13 and load 2, takes 1", 16, x -> x.can(0, 1, 1));
    }

    private static void go() {
        Scene.bounds("11: go, BAD", BAD, of(0, 1), within(ONE, STONE), (x, a) -> x.go(a[0], a[1]));
        Scene.still("11: go, STATE: no way", STATE, x -> x.go(0, 5));
        Scene.still("11: go, STATE: where it is", STATE, x -> x.go(0, 0));
        Scene.still("11: go, STATE: too far", STATE, x -> x.go(0, 3));
    }

    private static void soonest() {
        Scene.bounds("12: soonest, BAD", BAD, of(0, 2, 0), within(ONE, STONE, ZERO_ONE), (x, a) -> x.soonest(a[0], a[1], a[2]));
        Scene.still("12: soonest, NONE", -1, x -> x.soonest(0, 5, 0));
        Scene.still("12: soonest, NONE, the first stone", -1, x -> x.soonest(0, 5, 1));
        Scene.still("12: soonest, there", 0, x -> x.soonest(3, 2, 0));
        Scene.still("12: soonest, there: NONE", -1, x -> x.soonest(3, 2, 1));
        Scene.still("12: soonest changes nothing: 13 and 2, takes 1, 12 and 2, takes 2", 32, x -> x.soonest(0, 2, 0));
    }

    private static void together() {
        Scene.bounds("13: together, BAD", BAD, of(2, 1, 2), within(ONE, ONE, STONE), (x, a) -> x.together(a[0], a[1], a[2]));
        for (int one = 0; one < Scene.PEOPLE; one++) {
            int o = one;
            Scene.still("13: together, BAD, alike " + o, BAD, x -> x.together(o, o, 0));
        }
        Scene.still("13: together, STATE: not on one stone", STATE, x -> x.together(0, 3, 2));
        Scene.still("13: together, STATE, the other way round", STATE, x -> x.together(3, 0, 2));
        Scene.still("13: together, STATE goes ahead of NONE", STATE, x -> x.together(0, 3, 5));
        Scene.still("13: together, BAD stone goes ahead of STATE", BAD, x -> x.together(0, 3, 8));
        Scene.still("13: together, BAD stone below goes ahead of STATE", BAD, x -> x.together(3, 0, -1));
        Scene.still("13: together, NONE", -1, x -> x.together(0, 1, 5));
        Scene.still("13: together, there", 0, x -> x.together(0, 1, 0));
    }

    private static void lend() {
        Scene.bounds("14: lend, BAD", BAD, of(2, 1, 5), within(ONE, ONE, of(1, 99)), (x, a) -> x.lend(a[0], a[1], a[2]));
        for (int one = 0; one < Scene.PEOPLE; one++) {
            int o = one;
            Scene.still("14: lend, BAD, alike " + o, BAD, x -> x.lend(o, o, 1));
        }
        Scene.still("14: lend, STATE: not on one stone", STATE, x -> x.lend(0, 3, 1));
        Scene.still("14: lend, STATE, the other way round", STATE, x -> x.lend(3, 0, 1));
        Scene.still("14: lend, BAD yards go ahead of STATE", BAD, x -> x.lend(0, 3, 0));
        Scene.still("14: lend, BAD yards above go ahead of STATE", BAD, x -> x.lend(0, 3, 100));
        Scene.still("14: lend, STATE: it hasn't so many: 30", STATE, x -> x.lend(0, 1, 31));
        Scene.still("14: lend, STATE: it has none", STATE, x -> x.set(1, 0, 0), x -> x.lend(0, 1, 1));
        Scene.still("14: lend, STATE: the other one would have 100", STATE, x -> x.set(1, 1, 70), x -> x.lend(0, 1, 30));
        Scene.still("14: lend, STATE: the other one has 99", STATE, x -> x.set(1, 1, 99), x -> x.lend(0, 1, 1));
        Scene.still("14: lend, STATE: it would owe 100, 7 and 93", STATE, x -> {
            x.set(1, 0, 99);
            x.set(1, 1, 0);
        }, x -> x.lend(0, 1, 93));
        RolledUp x = Scene.make();
        Check.due("14: lend, all 30 that it has, 3 a yard", x.lend(0, 1, 30), 90);
        x.set(1, 0, 99);
        x.set(1, 1, 37);
        Check.due("14: lend, the other one has 99 then, and owes 99", x.lend(0, 1, 62), 3 * 62);
        Check.due("14: 99", x.told(1, 1), 99);
        Check.due("14: 99 owed", x.owed(1, 0), 99);
    }

    private static void owed() {
        Scene.bounds("15: owed, BAD", BAD, of(0, 1), within(ONE, ONE), (x, a) -> x.owed(a[0], a[1]));
        for (int one = 0; one < Scene.PEOPLE; one++) {
            int o = one;
            Scene.still("15: owed, one and itself aren't refused " + o, 0, x -> x.owed(o, o));
        }
        Scene.still("15: owed changes nothing", 7, x -> x.owed(1, 0));
    }

    private static void shaken() {
        Scene.bounds("17: shaken, BAD", BAD, of(2, 1), within(ONE, ONE), (x, a) -> x.shaken(a[0], a[1]));
        for (int one = 0; one < Scene.PEOPLE; one++) {
            int o = one;
            Scene.still("17: shaken, BAD, alike " + o, BAD, x -> x.shaken(o, o));
        }
        Scene.still("17: shaken, STATE: not on one stone", STATE, x -> x.shaken(0, 3));
        Scene.still("17: shaken, STATE, the other way round", STATE, x -> x.shaken(3, 0));
        Scene.still("17: shaken, STATE goes ahead of NONE", STATE, x -> x.set(0, 3, 5), x -> x.shaken(3, 0));
        Scene.Step away = x -> {
            x.set(0, 0, 5);
            x.set(0, 1, 5);
        };
        Scene.still("17: shaken, NONE: no way from there", -1, away, x -> x.shaken(0, 1));
    }

    private static void prints() {
        Scene.bounds("18: prints, BAD sheet", BAD, x -> x.sheet(0, 0, 2), of(Scene.ODD), within(SHEET), (x, a) -> x.prints(a[0]));
        Scene.still("18: prints, missing", NOTHING, x -> x.prints(Scene.MISSING));
        Scene.still("18: prints, BAD: it tells none", BAD, x -> x.sheet(1, 1, 0), x -> x.prints(1));
        Scene.still("18: prints, BAD: it tells one", BAD, x -> x.sheet(1, 1, 1), x -> x.prints(1));
        Scene.still("18: prints, two are enough", 0, x -> x.sheet(1, 1, 2), x -> x.prints(1));
        for (int at = 0; at < 3; at++) {
            int i = at;
            Scene.still("18: prints, BAD: stone 8 at " + i, BAD, x -> x.cell(1, i, 8), x -> x.prints(1));
            Scene.still("18: prints, BAD: stone -1 at " + i, BAD, x -> x.cell(1, i, -1), x -> x.prints(1));
        }
        Scene.still("18: prints changes nothing", 15, x -> x.prints(1));
    }

    private static void out() {
        Scene.bounds("19: out, BAD", BAD, of(0, 2, 0), within(ONE, STONE, ZERO_ONE), (x, a) -> x.out(a[0], a[1], a[2]));
        Scene.still("19: out, NONE", -1, x -> x.out(0, 5, 0));
        Scene.still("19: out, NONE, in how many hours", -1, x -> x.out(0, 5, 1));
        Scene.still("19: out changes nothing", 32, x -> x.out(0, 2, 1));
    }

    private static void road() {
        Scene.bounds("20: road, BAD", BAD, of(2, 0), within(STONE, of(0, 2)), (x, a) -> x.road(a[0], a[1]));
        Scene.still("20: road changes nothing", 4, x -> x.road(2, 1));
    }

    private static void judge() {
        Scene.bounds("21: judge, BAD sheet", BAD, of(Scene.ROWS), within(SHEET), (x, a) -> x.judge(a[0]));
        Scene.still("21: judge, missing", NOTHING, x -> x.judge(Scene.MISSING));
        Scene.still("21: judge, BAD: odd", BAD, x -> x.judge(Scene.ODD));
        Scene.still("21: judge, BAD: odd goes ahead of a row that isn't such", BAD, x -> x.cell(Scene.ODD, 0, 9), x -> x.judge(Scene.ODD));
        Scene.still("21: judge, BAD: one number is odd", BAD, x -> x.sheet(0, 0, 1), x -> x.judge(0));
        Scene.still("21: judge, NONE", -1, x -> x.judge(Scene.ROWS));
        Scene.still("21: judge, NONE: no row", -1, x -> x.sheet(0, 0, 0), x -> x.judge(0));
        Scene.still("21: judge, the row of nobody", 1, x -> x.cell(2, 2, Scene.PEOPLE), x -> x.judge(2));
        Scene.still("21: judge, the row of nobody below", 1, x -> x.cell(2, 2, -1), x -> x.judge(2));
        Scene.still("21: judge, the row of no stone", 1, x -> x.cell(2, 3, 8), x -> x.judge(2));
        Scene.still("21: judge, the row of no stone below", 1, x -> x.cell(2, 3, -1), x -> x.judge(2));
        Scene.still("21: judge, the row that one can't", 1, x -> x.cell(2, 3, 0), x -> x.judge(2));
    }

    private static void drawn() {
        Scene.bounds("22: drawn, BAD", BAD, of(3, 5, 1), within(FREE, of(0, 30), STONE), (x, a) -> x.drawn(a[0], a[1], a[2]));
        Scene.still("22: drawn changes nothing", 3, x -> x.drawn(77, 0, 0));
        RolledUp x = Scene.make();
        int all = 0;
        for (int to = 0; to < 8; to++) {
            all += x.drawn(77, 30, to);
        }
        Check.due("22: all are somewhere after 30 rounds", all, Scene.PEOPLE);
        for (int to = 0; to < 8; to++) {
            int t = to;
            long due = Scene.make().drawn(77, 30, t);
            Scene.still("22: 30 rounds change nothing, stone " + t, due, y -> y.drawn(77, 30, t));
        }
    }

    private static void chance() {
        Scene.bounds("23: chance, NO", NO, of(3, 5, 5, 1, 0), within(FREE, of(1, 20), of(0, 30), STONE, ZERO_ONE),
            (x, a) -> x.chance(a[0], a[1], a[2], a[3], a[4]));
        Scene.still("23: chance changes nothing", 1, x -> x.chance(77, 20, 0, 0, 0));
    }

    private static void back() {
        RolledUp x = new RolledUp();
        x.one(0, 123, 4);
        x.mud(0, 1, 5);
        x.set(5, 0, 6);
        Check.due("25: back, STATE: there is no image", x.back(), STATE);
        Check.due("25: it changes nothing, people", x.count(0), 1);
        Check.due("25: it changes nothing, mud", x.far(0, 1), 5);
        Check.due("25: it changes nothing, HOUR", x.count(2), 6);
        Check.due("25: once more", x.back(), STATE);
        Check.due("24: an image", x.image(), 1);
        Check.due("25: there is one", x.back(), 1);
        Check.due("25: it is still there", x.back(), 1);
    }

    private static void count() {
        Scene.bounds("26: count, BAD", BAD, of(0), within(of(0, 7)), (x, a) -> x.count(a[0]));
    }

    private static void sheet() {
        Scene.bounds("27: sheet, BAD sheet, sort", BAD, of(0, 1, 5), within(SHEET, of(-1, 2), FREE), (x, a) -> x.sheet(a[0], a[1], a[2]));
        for (int sort = 0; sort < 3; sort++) {
            int s = sort;
            for (int n : of(41, 42, 296, 65536, Integer.MAX_VALUE)) {
                Scene.still("27: sheet of sort " + s + ", BAD n " + n, BAD, x -> x.sheet(0, s, n));
                Scene.still("27: sheet that was missing, BAD n " + n, BAD, x -> x.sheet(Scene.MISSING, s, n));
            }
            for (int n : of(-1, -2, -256, -65536, Integer.MIN_VALUE)) {
                Scene.still("27: sheet of sort " + s + ", a size below 0, " + n, BELOW, x -> x.sheet(0, s, n));
                Scene.still("27: sheet that was missing, a size below 0, " + n, BELOW, x -> x.sheet(Scene.MISSING, s, n));
            }
        }
        Scene.bounds("27: sheet, BAD sheet, sort go ahead of -14", BAD, of(0, 1, -1), within(SHEET, of(-1, 2), FREE), (x, a) -> x.sheet(a[0], a[1], a[2]));
        Scene.bounds("27: no such sheet can be made missing", BAD, of(0), within(SHEET), (x, a) -> x.sheet(a[0], -1, 0));
        for (int n : of(0, 40, 41, -1, Integer.MAX_VALUE, Integer.MIN_VALUE)) {
            Check.due("27: sheet, missing: n does not matter, " + n, Scene.make().sheet(0, -1, n), 1);
        }
    }

    private static void cell() {
        Scene.bounds("28: cell, BAD", BAD, of(0, 1, 5), within(SHEET, FREE, FREE), (x, a) -> x.cell(a[0], a[1], a[2]));
        Scene.bounds("28: cell, -12", OUTSIDE, of(0, 1, 5), within(FREE, of(0, 5), FREE), (x, a) -> x.cell(a[0], a[1], a[2]));
        Scene.still("28: cell, -12: nothing is inside a sheet of none", OUTSIDE, x -> x.sheet(0, 2, 0), x -> x.cell(0, 0, 5));
        Scene.still("28: cell, -11", NOTHING, x -> x.cell(Scene.MISSING, 0, 5));
        Scene.still("28: cell, -11 goes ahead of -12", NOTHING, x -> x.cell(Scene.MISSING, -1, 5));
        Scene.still("28: cell, BAD goes ahead of all", BAD, x -> x.cell(4, -1, 5));
    }

    private static void copy() {
        Scene.Step two = x -> Check.tell(x, 3, 0, 5, 6, 7, 8);
        int[] good = {0, 1, 3, 1, 2};
        Scene.Asked call = (x, a) -> x.copy(a[0], a[1], a[2], a[3], a[4]);
        Scene.bounds("29: copy, BAD", BAD, two, good, within(SHEET, FREE, SHEET, FREE, FREE), call);
        Scene.bounds("29: copy, -12: 6 and 4 numbers, 2 of them", OUTSIDE, two, good, within(FREE, of(0, 4), FREE, of(0, 2), FREE), call);
        Scene.bounds("29: copy, -12: n", OUTSIDE, two, good, within(FREE, FREE, FREE, FREE, of(0, 3)), call);
        Scene.bounds("29: copy, -12, the other way round: n", OUTSIDE, two, of(3, 1, 0, 1, 2), within(FREE, of(0, 2), FREE, of(0, 4), of(0, 3)), call);
        Scene.bounds("29: copy of none, -12: behind the end", OUTSIDE, two, of(0, 1, 3, 1, 0), within(FREE, of(0, 6), FREE, of(0, 4), FREE), call);
        Scene.still("29: copy, -12: place and n together wrap", OUTSIDE, two, x -> x.copy(0, 1, 3, 1, Integer.MAX_VALUE));
        Scene.still("29: copy, -12: place and n together wrap", OUTSIDE, two, x -> x.copy(0, Integer.MAX_VALUE, 3, 1, 1));
        Scene.still("29: copy, -12: place and n together wrap", OUTSIDE, two, x -> x.copy(0, 0, 3, Integer.MAX_VALUE, 1));
        Scene.still("29: copy, -12: n below 0 in the middle", OUTSIDE, two, x -> x.copy(0, 3, 3, 3, -1));
        Scene.still("29: copy, -11: the first is missing", NOTHING, x -> x.copy(3, 0, 0, 0, 1));
        Scene.still("29: copy, -11: the other is missing", NOTHING, x -> x.copy(0, 0, 3, 0, 1));
        Scene.still("29: copy, -11: one and the same is missing", NOTHING, x -> x.copy(3, 0, 3, 0, 0));
        Scene.still("29: copy, -11 goes ahead of -12", NOTHING, x -> x.copy(0, -1, 3, -1, -1));
        Scene.still("29: copy, BAD goes ahead of -11", BAD, x -> x.copy(3, 0, 4, 0, 1));
        Scene.still("29: copy, BAD goes ahead of -11", BAD, x -> x.copy(-1, 0, 3, 0, 1));
        Scene.still("29: copy, -13", OTHER, x -> x.copy(0, 0, 1, 0, 1));
        Scene.still("29: copy, -13 with none", OTHER, x -> x.copy(1, 0, 2, 0, 0));
        Scene.still("29: copy, -13 goes ahead of -12", OTHER, x -> x.copy(2, -1, 0, 0, 1));
        Scene.still("29: copy, -13 goes ahead of n below 0", OTHER, x -> x.copy(2, 0, 0, 0, -1));
        Scene.still("29: copy, BAD goes ahead of -13, -12", BAD, x -> x.copy(2, -1, 4, 0, -1));
    }

    private static void muds() {
        Scene.Asked call = (x, a) -> x.muds(a[0], a[1], a[2], a[3]);
        Scene.bounds("30: muds, BAD", BAD, of(0, 0, 0, 1), within(SHEET, of(0, 2), FREE, of(0, 13)), call);
        Scene.bounds("30: muds of a missing one, BAD goes ahead of -11", BAD, of(3, 0, 0, 1), within(SHEET, of(0, 2), FREE, of(0, 13)), call);
        Scene.bounds("30: muds of another sort, BAD goes ahead of -13", BAD, of(0, 1, 0, 1), within(SHEET, of(0, 2), FREE, of(0, 13)), call);
        Scene.bounds("30: muds, -12: from", OUTSIDE, of(0, 0, 0, 1), within(FREE, FREE, of(0, 3), FREE), call);
        Scene.still("30: muds, -13", OTHER, x -> x.muds(0, 1, 0, 1));
        Scene.still("30: muds, -13", OTHER, x -> x.muds(1, 2, 0, 1));
        Scene.still("30: muds, -13", OTHER, x -> x.muds(2, 0, 0, 1));
        Scene.still("30: muds, -13 with none", OTHER, x -> x.muds(0, 2, 0, 0));
        Scene.still("30: muds, -13 goes ahead of -12", OTHER, x -> x.muds(0, 1, -1, 1));
        for (int sort = 0; sort < 3; sort++) {
            int s = sort;
            Scene.still("30: muds, -11: missing, taken for sort " + s, NOTHING, x -> x.muds(3, s, 0, 1));
            Scene.still("30: muds, -11 with none " + s, NOTHING, x -> x.muds(3, s, 0, 0));
            Scene.still("30: muds, -11 goes ahead of -12 " + s, NOTHING, x -> x.muds(3, s, -1, 1));
        }
    }

    private static void taken() {
        Scene.bounds("31: taken, BAD", BAD, of(0, 1), within(FREE, of(0, 5)), (x, a) -> x.taken(a[0], a[1]));
        Scene.bounds("31: taken, -11", NOTHING, of(0, 0), within(ONE, FREE), (x, a) -> x.taken(a[0], a[1]));
        Scene.still("31: taken, BAD goes ahead of -11", BAD, x -> x.taken(Scene.PEOPLE, 6));
        Scene.still("31: taken, BAD goes ahead of -11 below", BAD, x -> x.taken(-1, -1));
        Scene.still("31: taken, -11 goes ahead of -13", NOTHING, x -> x.taken(Scene.PEOPLE, 5));
        Scene.still("31: taken, -13", OTHER, x -> x.taken(0, 2));
        Scene.still("31: taken changes nothing", 5, x -> x.taken(0, 1));
    }
}
