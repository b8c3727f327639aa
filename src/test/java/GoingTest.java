/** Promises 10 to 13: can, go, soonest, together. */
public final class GoingTest {
    public static void main(String[] args) {
        canGo();
        lastsOfKinds();
        goes();
        soaksOfKinds();
        soonestRows();
        dryingRow();
        soonestRefusals();
        pooled();
        Check.end();
    }

    private static void canGo() {
        RolledUp x = new RolledUp();
        x.one(0, 200, 0);
        x.mud(0, 1, 20);
        x.mud(0, 2, 21);
        x.mud(1, 3, 5);
        Check.due("10: it reaches just", x.can(0, 1, 0), 1);
        Check.due("10: hours", x.can(0, 1, 1), 20);
        Check.due("10: a yard too far", x.can(0, 2, 0), 0);
        Check.due("10: a yard too far, hours", x.can(0, 2, 1), -1);
        Check.due("10: no way", x.can(0, 3, 0), 0);
        Check.due("10: no way, hours", x.can(0, 3, 1), -1);
        Check.due("10: where it is", x.can(0, 0, 0), 0);
        Check.due("10: where it is, hours", x.can(0, 0, 1), -1);
        x.set(2, 0, 9);
        Check.due("10: takes wet", x.can(0, 1, 1), 29);
        x.set(0, 0, 3);
        Check.due("10: from where it is", x.can(0, 1, 1), 14);
        int[][] bad = {{1, 0, 0}, {-1, 0, 0}, {0, 8, 0}, {0, -1, 0}, {0, 0, 2}, {0, 0, -1}};
        for (int[] b : bad) {
            Check.due("10: BAD", x.can(b[0], b[1], b[2]), -2);
        }
        Check.due("10: nothing has changed", x.told(0, 0), 3);
        Check.due("10: no hour has gone by", x.count(2), 0);
    }

    /** Kind, NUMBER, LOAD, MUD, WET, hours: what it LASTS, and WET. */
    private static void lastsOfKinds() {
        int[][] rows = {
            {0, 9, 8, 20, 0, 20}, {1, 9, 8, 20, 0, 28}, {2, 9, 8, 20, 0, 11}, {3, 9, 8, 20, 0, 56}, {4, 9, 8, 20, 0, 11},
            {5, 9, 8, 20, 0, 37}, {2, 9, 8, 5, 0, 1}, {2, 9, 8, 9, 0, 1}, {2, 9, 8, 10, 0, 1}, {2, 9, 8, 11, 0, 2},
            {2, 9, 8, 5, 3, 4}, {4, 9, 8, 5, 3, 4}, {0, 0, 0, 1, 0, 1}, {1, 0, 0, 1, 0, 1}, {3, 0, 0, 1, 0, 2}, {5, 0, 0, 1, 0, 1}};
        for (int[] r : rows) {
            RolledUp x = new RolledUp();
            x.one(r[0], 990 + r[1], r[2]);
            x.mud(0, 1, r[3]);
            x.set(2, 0, r[4]);
            Check.due("10: hours of kind " + r[0] + " over " + r[3], x.can(0, 1, 1), r[5]);
        }
    }

    private static void goes() {
        RolledUp x = new RolledUp();
        x.one(0, 200, 0);
        x.one(0, 200, 0);
        x.mud(0, 1, 10);
        x.mud(1, 2, 30);
        x.set(6, 0, 4);
        x.set(6, 10, 3);
        Check.due("11: HOUR then", x.go(0, 1), 10);
        Check.due("11: where it is then", x.told(0, 0), 1);
        Check.due("11: RAIN of the hour at which it began", x.told(0, 2), 4);
        Check.due("11: the other one is where it was", x.told(1, 0), 0);
        Check.due("11: the other one is dry", x.told(1, 2), 0);
        Check.due("11: STATE, too far", x.go(0, 2), -3);
        Check.due("11: STATE, no way", x.go(0, 3), -3);
        Check.due("11: STATE, where it is", x.go(0, 1), -3);
        Check.due("11: refused calls change nothing", x.count(2), 10);
        Check.due("11: refused calls change nothing", x.told(0, 2), 4);
        Check.due("11: back again, wet", x.go(0, 0), 24);
        Check.due("11: RAIN of hour 10", x.told(0, 2), 7);
        Check.due("11: BAD one", x.go(2, 1), -2);
        Check.due("11: BAD one below", x.go(-1, 1), -2);
        Check.due("11: BAD stone", x.go(0, 8), -2);
        Check.due("11: BAD stone below", x.go(0, -1), -2);
        x.set(5, 0, 9990);
        Check.due("11: HOUR 9999 at most", x.go(1, 1), 9999);
        x.set(5, 0, 9980);
        Check.due("11: HOUR below it", x.go(1, 0), 9990);
    }

    /** Kind, WET, RAIN, WET behind the way. */
    private static void soaksOfKinds() {
        int[][] rows = {
            {0, 3, 4, 7}, {0, 6, 5, 9}, {1, 3, 4, 7}, {1, 9, 9, 9}, {2, 3, 4, 3}, {2, 9, 9, 9}, {2, 9, 0, 4}, {2, 1, 0, 0},
            {3, 3, 4, 8}, {3, 5, 4, 9}, {3, 0, 0, 1}, {4, 3, 9, 3}, {4, 9, 0, 9}, {5, 1, 2, 6}, {5, 3, 4, 9}, {5, 0, 0, 0}};
        for (int[] r : rows) {
            RolledUp x = new RolledUp();
            x.one(r[0], 990, 0);
            x.mud(0, 1, 10);
            x.set(2, 0, r[1]);
            x.set(6, 0, r[2]);
            x.go(0, 1);
            Check.due("11: kind " + r[0] + " as wet as " + r[1] + " in rain " + r[2], x.told(0, 2), r[3]);
        }
    }

    private static void soonestRows() {
        RolledUp x = new RolledUp();
        x.one(0, 500, 0);
        x.mud(0, 3, 4);
        x.mud(3, 5, 6);
        x.mud(0, 2, 7);
        x.mud(2, 5, 3);
        Check.due("12: hours", x.soonest(0, 5, 0), 10);
        Check.due("12: the least first stone of like rows", x.soonest(0, 5, 1), 2);
        x.mud(2, 5, 4);
        Check.due("12: the first stone of the better row", x.soonest(0, 5, 1), 3);
        x.mud(0, 5, 10);
        Check.due("12: one way or two, as soon", x.soonest(0, 5, 1), 3);
        x.mud(0, 1, 10);
        x.mud(0, 7, 5);
        x.mud(7, 1, 5);
        Check.due("12: one way or two, the least first stone", x.soonest(0, 1, 1), 1);
        x.mud(0, 1, 11);
        Check.due("12: two ways are sooner", x.soonest(0, 1, 1), 7);
        Check.due("12: two ways are sooner, hours", x.soonest(0, 1, 0), 10);
        Check.due("12: there", x.soonest(0, 0, 0), 0);
        Check.due("12: there, no first stone", x.soonest(0, 0, 1), -1);
        x.set(6, 0, 3);
        Check.due("12: rain as now all along: 5, then 5 and 3", x.soonest(0, 1, 0), 11);
        Check.due("12: a way more in rain", x.soonest(0, 1, 1), 1);
        x.set(5, 0, 24);
        Check.due("12: rain of hour 24 is that of 0", x.soonest(0, 1, 0), 11);
        x.set(5, 0, 25);
        Check.due("12: no rain", x.soonest(0, 1, 0), 10);
        RolledUp y = new RolledUp();
        y.one(0, 500, 0);
        y.mud(0, 2, 5);
        y.mud(2, 6, 5);
        y.mud(6, 7, 5);
        y.mud(0, 3, 5);
        y.mud(3, 5, 5);
        y.mud(5, 7, 5);
        Check.due("12: the least first stone by the greater one before the last", y.soonest(0, 7, 1), 2);
        y.mud(0, 1, 16);
        y.mud(1, 7, 1);
        Check.due("12: fewest hours go ahead of the least first stone", y.soonest(0, 7, 1), 2);
        Check.due("12: in thought", x.told(0, 0), 0);
        Check.due("12: in thought", x.told(0, 2), 0);
        Check.due("12: in thought", x.count(2), 25);
    }

    /** 10 yards, tarred, WET 9: it must go to and fro till it is dry enough for the long way. */
    private static void dryingRow() {
        RolledUp x = new RolledUp();
        x.one(2, 100, 0);
        x.set(2, 0, 9);
        x.mud(0, 1, 1);
        x.mud(0, 2, 10);
        Check.due("12: 1+9, 1+4, 1+2, 1+1, 10", x.soonest(0, 2, 0), 30);
        Check.due("12: the first stone of that", x.soonest(0, 2, 1), 1);
        Check.due("12: it can't go at once", x.can(0, 2, 0), 0);
        x.mud(2, 3, 1);
        x.mud(3, 4, 1);
        x.mud(4, 5, 1);
        x.mud(5, 6, 1);
        x.mud(6, 7, 1);
        Check.due("12: ten ways", x.soonest(0, 7, 0), 35);
        RolledUp z = new RolledUp();
        Check.due("12: text", Check.read(z, "wants 99*(wet<9)*(from+to=2)*(from*to=0); takes 0; lends 0;"), 1);
        z.force(1);
        z.one(3, 990, 0);
        int[][] ways = {{0, 1}, {0, 2}, {2, 3}, {3, 4}, {4, 5}, {5, 6}, {6, 7}};
        for (int[] way : ways) {
            z.mud(way[0], way[1], 1);
        }
        Check.due("12: ten ways to and fro till WET is 9, then six, 2 hours each", z.soonest(0, 7, 0), 32);
        RolledUp y = new RolledUp();
        y.one(5, 100, 0);
        y.set(6, 0, 1);
        y.mud(0, 1, 8);
        y.mud(1, 2, 8);
        y.mud(2, 3, 4);
        Check.due("12: 10 yards, 8 with wet 2, 4 with wet 6", y.soonest(0, 2, 0), 18);
        Check.due("12: 10 yards, 8 with wet 2, 4 with wet 6", y.soonest(0, 3, 0), 28);
        y.mud(2, 3, 5);
        Check.due("12: it gets too wet", y.soonest(0, 3, 0), -1);
        Check.due("12: it gets too wet", y.soonest(0, 3, 1), -1);
    }

    private static void soonestRefusals() {
        RolledUp x = new RolledUp();
        x.one(0, 500, 0);
        int[][] bad = {{1, 0, 0}, {-1, 0, 0}, {0, 8, 0}, {0, -1, 0}, {0, 0, 2}, {0, 0, -1}};
        for (int[] b : bad) {
            Check.due("12: BAD", x.soonest(b[0], b[1], b[2]), -2);
        }
        Check.due("12: NONE", x.soonest(0, 4, 0), -1);
        Check.due("12: NONE", x.soonest(0, 4, 1), -1);
    }

    private static void pooled() {
        RolledUp x = new RolledUp();
        Check.due("13: text", Check.read(x, "wants load; takes 0; lends 0;"), 1);
        x.force(1);
        x.one(0, 100, 1);
        x.one(0, 120, 2);
        x.one(0, 990, 9);
        x.mud(0, 1, 19);
        x.mud(1, 2, 20);
        Check.due("13: 22 yards for 19 and wants of both", x.together(0, 1, 1), 1);
        Check.due("13: 22 yards for 20 and wants of both", x.together(0, 1, 2), -1);
        Check.due("13: there", x.together(0, 1, 0), 0);
        Check.due("13: alone it could", x.together(0, 2, 2), 2);
        x.mud(0, 3, 2);
        x.mud(3, 4, 2);
        x.mud(4, 2, 2);
        Check.due("13: the fewest ways that can be gone", x.together(0, 1, 2), 3);
        x.mud(0, 2, 19);
        Check.due("13: the fewest ways", x.together(0, 1, 2), 1);
        int[][] bad = {{0, 0, 0}, {3, 0, 0}, {0, 3, 0}, {-1, 0, 0}, {0, -1, 0}, {0, 1, 8}, {0, 1, -1}};
        for (int[] b : bad) {
            Check.due("13: BAD", x.together(b[0], b[1], b[2]), -2);
        }
        x.set(0, 1, 1);
        Check.due("13: STATE", x.together(0, 1, 1), -3);
        Check.due("13: BAD is named ahead of STATE", x.together(0, 1, 8), -2);
        RolledUp y = new RolledUp();
        y.one(5, 100, 0);
        y.one(5, 100, 0);
        y.set(6, 0, 9);
        y.mud(0, 1, 20);
        y.mud(1, 2, 20);
        Check.due("13: as wet as they are now, all along", y.together(0, 1, 2), 2);
        y.set(2, 0, 1);
        Check.due("13: wet now", y.together(0, 1, 2), -1);
    }
}
