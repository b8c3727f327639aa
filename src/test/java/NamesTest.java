/**
 * What mud, wet, load, rain, from, to are in each call that asks THE RULE: a way over MUD 7 from STONE 4 to 6, of one
 * who is WET 3, with LOAD 5, in RAIN 2. By "wants 99*(not name=v)" it can be gone only if the name is v.
 */
public final class NamesTest {
    private static final String[] NAMES = {"mud", "wet", "load", "rain", "from", "to"};
    private static final int[] VALUES = {7, 3, 5, 2, 4, 6};
    private static final int SEED = seedTo(6);

    public static void main(String[] args) {
        for (int name = 0; name < 6; name++) {
            for (int v = 0; v < 8; v++) {
                ways(name, v);
                pooled(name, v);
                thieves(name, v);
                sheets(name, v);
                days(name, v);
                roads(name, v);
            }
            hours(name);
            lending(name);
        }
        Check.end();
    }

    private static int seedTo(int stone) {
        int seed = 0;
        while (((seed * 1103515245 + 12345) >>> 9) % 8 != stone) {
            seed++;
        }
        return seed;
    }

    /** On STONE 4, at an HOUR of its own RAIN; the TEXT is THE RULE. */
    private static RolledUp scene(String text, int people) {
        RolledUp x = new RolledUp();
        Check.due("8: " + text, Check.read(x, text), 1);
        Check.due("9: force", x.force(1), 0);
        for (int one = 0; one < people; one++) {
            x.one(0, 500, 5);
            x.set(0, one, 4);
            x.set(2, one, 3);
        }
        x.set(5, 0, 24 * 3 + 11);
        x.set(6, 11, 2);
        x.mud(4, 6, 7);
        return x;
    }

    private static RolledUp wanting(int name, int v, int people) {
        return scene("wants 99*(not " + NAMES[name] + "=" + v + ");takes 0;lends 0;", people);
    }

    private static String told(int promise, int name, int v) {
        return promise + ": " + NAMES[name] + " is " + v;
    }

    private static void ways(int name, int v) {
        boolean can = VALUES[name] == v;
        RolledUp x = wanting(name, v, 1);
        Check.due(told(10, name, v), x.can(0, 6, 0), can ? 1 : 0);
        Check.due(told(10, name, v), x.can(0, 6, 1), can ? 7 : -1);
        Check.due(told(12, name, v), x.soonest(0, 6, 0), can ? 7 : -1);
        Check.due(told(12, name, v), x.soonest(0, 6, 1), can ? 6 : -1);
        x.force(0);
        Check.due("9: TEXT 0 wants nothing", x.soonest(0, 6, 0), 10);
        x.force(1);
        Check.due(told(11, name, v), x.go(0, 6), can ? 24 * 3 + 11 + 7 : -3);
        Check.due(told(11, name, v), x.told(0, 0), can ? 6 : 4);
        RolledUp y = wanting(name, v, 1);
        for (int hour = 0; hour < 24; hour++) {
            y.set(6, hour, 2);
        }
        Check.due(told(19, name, v), y.out(0, 6, 1), can ? 7 : -1);
    }

    /** Together 100 yards: for 7, and 99 of either, they are too few. */
    private static void pooled(int name, int v) {
        boolean can = VALUES[name] == v;
        RolledUp x = wanting(name, v, 2);
        Check.due(told(13, name, v), x.together(0, 1, 6), can ? 1 : -1);
        boolean own = name == 1 || name == 2;
        for (int other = 0; other < 2; other++) {
            RolledUp y = wanting(name, v, 2);
            y.set(2, other, 8);
            y.set(3, other, 9);
            Check.due("13: WET, LOAD of each, " + other, y.together(0, 1, 6), can && !own ? 1 : -1);
        }
    }

    /** A thief without yards never can; one with LOAD 9 is the only one that the second rule holds back. */
    private static void thieves(int name, int v) {
        boolean can = VALUES[name] == v;
        RolledUp x = wanting(name, v, 2);
        x.set(1, 1, 0);
        Check.due(told(17, name, v), x.shaken(0, 1), can ? 1 : -1);
        RolledUp y = scene("wants 99*(8<load and not " + NAMES[name] + "=" + v + ");takes 0;lends 0;", 2);
        y.set(3, 1, 9);
        boolean thiefCan = name == 2 ? v == 9 : can;
        Check.due("17: the thief's " + NAMES[name] + " is " + v, y.shaken(0, 1) == 1 ? 0 : 1, thiefCan ? 1 : 0);
    }

    private static void sheets(int name, int v) {
        boolean can = VALUES[name] == v;
        RolledUp x = wanting(name, v, 3);
        x.set(0, 0, 1);
        Check.tell(x, 0, 0, 4, 6);
        Check.due(told(18, name, v), x.prints(0), can ? 7 : 0);
        Check.tell(x, 1, 2, 2, 6);
        Check.due(told(21, name, v), x.judge(1), can ? -1 : 0);
    }

    private static void days(int name, int v) {
        boolean can = VALUES[name] == v;
        RolledUp x = wanting(name, v, 1);
        Check.due(told(22, name, v), x.drawn(SEED, 1, 6), can ? 1 : 0);
        Check.due(told(23, name, v), x.chance(SEED, 1, 1, 6, 0), can ? 1 : 0);
    }

    /** MUD between the pair is 1, also for THE RULE. */
    private static void roads(int name, int v) {
        boolean can = name == 0 ? v == 1 : VALUES[name] == v;
        RolledUp x = wanting(name, v, 1);
        x.mud(4, 6, 0);
        Check.due(told(20, name, v), x.road(6, 0), can ? 46 : 1);
        Check.due(told(20, name, v), x.road(6, 1), can ? 1 : 0);
        Check.due(told(20, name, v), x.road(6, 2), can ? 1 : 0);
    }

    private static void hours(int name) {
        int all = 7 + VALUES[name];
        RolledUp x = scene("wants 0;takes " + NAMES[name] + ";lends 0;", 1);
        Check.due("10: takes " + NAMES[name], x.can(0, 6, 1), all);
        Check.due("12: takes " + NAMES[name], x.soonest(0, 6, 0), all);
        Check.due("11: takes " + NAMES[name], x.go(0, 6), 24 * 3 + 11 + all);
        RolledUp y = scene("wants 0;takes " + NAMES[name] + ";lends 0;", 1);
        Check.due("19: takes " + NAMES[name], y.out(0, 6, 1), name == 3 ? 8 : all);
        y.mud(4, 6, 0);
        Check.due("20: takes " + NAMES[name], y.road(6, 2), 1 + (name == 0 ? 1 : VALUES[name]));
    }

    /** "lends (from, to: the STONE on which both are; mud 0; wet, load of who lends)". */
    private static void lending(int name) {
        RolledUp x = scene("wants 0;takes 0;lends " + NAMES[name] + ";", 2);
        x.set(2, 1, 8);
        x.set(3, 1, 9);
        int[] due = {0, 3, 5, 2, 4, 4};
        int[] back = {0, 8, 9, 2, 4, 4};
        Check.due("14: lends " + NAMES[name], x.lend(0, 1, 2), 2 * due[name]);
        Check.due("14: lends " + NAMES[name] + ", the other way", x.lend(1, 0, 3), 3 * back[name]);
    }
}
