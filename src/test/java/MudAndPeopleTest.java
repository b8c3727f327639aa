/** Promises 1 to 6: a new object, mud, far, one, set, told. */
public final class MudAndPeopleTest {
    public static void main(String[] args) {
        newObject();
        mudAndFar();
        people();
        settings();
        toldOfOne();
        reachesOfKinds();
        Check.end();
    }

    private static void newObject() {
        RolledUp x = new RolledUp();
        for (int from = 0; from < 8; from++) {
            for (int to = 0; to < 8; to++) {
                Check.due("1: far of a new object", x.far(from, to), from == to ? -2 : 0);
            }
        }
        int[] counts = {0, 0, 0, 0, 1, 0, 0, 0};
        for (int what = 0; what < 8; what++) {
            Check.due("1: count(" + what + ") of a new object", x.count(what), counts[what]);
        }
        Check.due("1: nobody is told of", x.told(0, 0), -2);
        Check.due("1: no image", x.back(), -3);
        for (int sheet = 0; sheet < 4; sheet++) {
            Check.due("1: all sheets are missing", x.cell(sheet, 0, 0), -11);
        }
        RolledUp y = new RolledUp();
        x.mud(0, 1, 5);
        x.one(0, 0, 0);
        Check.due("1: objects share nothing, mud", y.far(0, 1), 0);
        Check.due("1: objects share nothing, people", y.count(0), 0);
    }

    private static void mudAndFar() {
        RolledUp x = new RolledUp();
        Check.due("2: what it was, at first", x.mud(2, 5, 99), 0);
        Check.due("2: what it was, the other way", x.mud(5, 2, 1), 99);
        Check.due("2: no way again", x.mud(2, 5, 0), 1);
        Check.due("2: what it was: no way", x.mud(2, 5, 7), 0);
        Check.due("3: far", x.far(2, 5), 7);
        Check.due("3: the same both ways", x.far(5, 2), 7);
        Check.due("3: other pairs are as they were", x.far(2, 4), 0);
        int[][] bad = {{3, 3, 1}, {-1, 3, 1}, {3, -1, 1}, {8, 3, 1}, {3, 8, 1}, {2, 5, -1}, {2, 5, 100},
            {Integer.MIN_VALUE, 0, 0}, {0, Integer.MAX_VALUE, 0}, {2, 5, Integer.MAX_VALUE}};
        for (int[] b : bad) {
            Check.due("2: BAD", x.mud(b[0], b[1], b[2]), -2);
        }
        Check.due("3: BAD, alike", x.far(0, 0), -2);
        Check.due("3: BAD, from below", x.far(-1, 0), -2);
        Check.due("3: BAD, to below", x.far(0, -1), -2);
        Check.due("3: BAD, from above", x.far(8, 0), -2);
        Check.due("3: BAD, to above", x.far(0, 8), -2);
        Check.due("2: refused calls change nothing", x.far(2, 5), 7);
        Check.due("2: one pair has mud", x.count(1), 1);
    }

    private static void people() {
        RolledUp x = new RolledUp();
        int[][] bad = {{-1, 0, 0}, {6, 0, 0}, {0, -1, 0}, {0, 1000, 0}, {0, 0, -1}, {0, 0, 10}, {Integer.MAX_VALUE, 0, 0}};
        for (int[] b : bad) {
            Check.due("4: BAD", x.one(b[0], b[1], b[2]), -2);
        }
        Check.due("4: refused ones don't come", x.count(0), 0);
        Check.due("4: first", x.one(5, 999, 9), 0);
        Check.due("4: second", x.one(0, 0, 0), 1);
        Check.due("4: third", x.one(3, 120, 4), 2);
        Check.due("4: fourth", x.one(1, 7, 1), 3);
        Check.due("4: fifth", x.one(2, 500, 2), 4);
        Check.due("4: FULL", x.one(2, 500, 2), -4);
        Check.due("4: BAD is named ahead of FULL", x.one(6, 500, 2), -2);
        Check.due("4: five", x.count(0), 5);
        int[][] told = {{0, 99, 0, 9, 9, 5}, {0, 0, 0, 0, 0, 0}, {0, 12, 0, 4, 0, 3}, {0, 0, 0, 1, 7, 1}, {0, 50, 0, 2, 0, 2}};
        for (int one = 0; one < 5; one++) {
            for (int what = 0; what < 6; what++) {
                Check.due("4, 6: told(" + one + ", " + what + ")", x.told(one, what), told[one][what]);
            }
        }
    }

    private static void settings() {
        RolledUp x = new RolledUp();
        x.one(0, 345, 6);
        x.one(0, 345, 6);
        int[] was = {0, 34, 0, 6, 5};
        int[] most = {7, 99, 9, 9, 9};
        for (int what = 0; what < 5; what++) {
            Check.due("5: what it was " + what, x.set(what, 1, most[what]), was[what]);
            Check.due("5: it is so " + what, x.told(1, what), most[what]);
            Check.due("5: the other one is as it was " + what, x.told(0, what), was[what]);
            Check.due("5: above " + what, x.set(what, 1, most[what] + 1), -2);
            Check.due("5: below " + what, x.set(what, 1, -1), -2);
            Check.due("5: nobody " + what, x.set(what, 2, 0), -2);
            Check.due("5: nobody below " + what, x.set(what, -1, 0), -2);
            Check.due("5: refused calls change nothing " + what, x.told(1, what), most[what]);
            Check.due("5: 0 " + what, x.set(what, 1, 0), most[what]);
        }
        Check.due("5: HOUR", x.set(5, 0, 9999), 0);
        Check.due("5: HOUR was", x.set(5, 77, 30), 9999);
        Check.due("5: HOUR above", x.set(5, 0, 10000), -2);
        Check.due("5: HOUR below", x.set(5, 0, -1), -2);
        Check.due("5: HOUR is", x.count(2), 30);
        Check.due("5: RAIN", x.set(6, 6, 9), 0);
        Check.due("5: RAIN of hour 30 is that of 6", x.count(3), 9);
        Check.due("5: RAIN was", x.set(6, 6, 2), 9);
        Check.due("5: RAIN of the last hour", x.set(6, 23, 1), 0);
        Check.due("5: RAIN of no hour", x.set(6, 24, 1), -2);
        Check.due("5: RAIN of no hour below", x.set(6, -1, 1), -2);
        Check.due("5: RAIN above", x.set(6, 6, 10), -2);
        Check.due("5: RAIN below", x.set(6, 6, -1), -2);
        Check.due("5: RAIN now", x.count(3), 2);
        Check.due("5: no such what", x.set(7, 0, 0), -2);
        Check.due("5: no such what below", x.set(-1, 0, 0), -2);
    }

    private static void toldOfOne() {
        RolledUp x = new RolledUp();
        x.one(0, 500, 0);
        x.one(0, 500, 0);
        x.one(0, 500, 0);
        x.lend(0, 1, 4);
        x.lend(2, 1, 3);
        x.lend(1, 2, 8);
        Check.due("6: owes", x.told(1, 7), 7);
        Check.due("6: is owed", x.told(1, 8), 8);
        Check.due("6: owes one", x.told(2, 7), 8);
        Check.due("6: is owed by one", x.told(2, 8), 3);
        Check.due("6: owes none", x.told(0, 7), 0);
        Check.due("6: is owed by one", x.told(0, 8), 4);
        x.lend(1, 0, 2);
        Check.due("6: is owed by all", x.told(1, 8), 10);
        Check.due("6: BAD what", x.told(0, 9), -2);
        Check.due("6: BAD what below", x.told(0, -1), -2);
        Check.due("6: BAD one", x.told(3, 0), -2);
        Check.due("6: BAD one below", x.told(-1, 0), -2);
        Check.due("6: BAD one, owes", x.told(3, 7), -2);
    }

    /** Kind, YARDS, NUMBER, WET, REACHES. */
    private static void reachesOfKinds() {
        int[][] rows = {
            {0, 20, 9, 9, 20}, {1, 20, 9, 9, 29}, {2, 20, 9, 9, 16}, {2, 20, 9, 1, 20}, {2, 3, 0, 9, 0},
            {3, 20, 9, 9, 14}, {3, 99, 9, 0, 54}, {4, 20, 5, 5, 20}, {4, 20, 5, 6, 17}, {4, 20, 9, 9, 20},
            {4, 2, 0, 9, 0}, {4, 20, 0, 1, 20}, {4, 20, 0, 2, 19}, {5, 20, 9, 4, 25}, {5, 20, 0, 9, 11}, {5, 3, 1, 9, 0}, {5, 99, 9, 0, 108}};
        for (int[] r : rows) {
            RolledUp x = new RolledUp();
            x.one(r[0], 10 * r[1] + r[2], 3);
            x.set(2, 0, r[3]);
            Check.due("6: REACHES of kind " + r[0] + ", " + r[1] + " yards, number " + r[2] + ", wet " + r[3], x.told(0, 6), r[4]);
        }
    }
}
