/** Promises 17 to 23: shaken, prints, out, road, judge, drawn, chance. */
public final class ThievesTest {
    private static final long NO = -4611686018427387904L;

    public static void main(String[] args) {
        shakenOff();
        shakenAtMostEight();
        printsLeft();
        printsRefusals();
        outInRain();
        roads();
        judged();
        drawnDays();
        chances();
        Check.end();
    }

    private static void shakenOff() {
        RolledUp x = new RolledUp();
        x.one(0, 990, 0);
        x.one(5, 200, 0);
        x.set(2, 1, 1);
        x.mud(0, 1, 12);
        Check.due("17: the thief's reach: 19, 18, 16, 12, 11", x.shaken(0, 1), 5);
        Check.due("17: who can go each way isn't shaken off so", x.shaken(1, 0), -1);
        x.mud(1, 2, 19);
        Check.due("17: the second way", x.shaken(0, 1), 2);
        x.mud(0, 3, 20);
        Check.due("17: the first way", x.shaken(0, 1), 1);
        x.mud(0, 3, 99);
        x.set(1, 0, 98);
        Check.due("17: a way that one can't go, either", x.shaken(0, 1), 2);
        RolledUp y = new RolledUp();
        y.one(5, 200, 0);
        y.one(0, 110, 0);
        y.set(2, 0, 1);
        y.mud(0, 1, 5);
        y.mud(1, 2, 5);
        y.mud(2, 3, 17);
        Check.due("17: one gets wet, too: its reach is 19, 18, 16", y.shaken(0, 1), -1);
        y.mud(2, 3, 16);
        Check.due("17: just so", y.shaken(0, 1), 3);
        y.mud(0, 4, 5);
        y.mud(0, 5, 5);
        Check.due("17: by the first of some stones", y.shaken(0, 1), 3);
        y.mud(2, 3, 0);
        y.mud(5, 3, 12);
        y.mud(5, 6, 5);
        Check.due("17: by the last of some stones", y.shaken(0, 1), 2);
        y.mud(5, 3, 0);
        y.mud(0, 3, 12);
        y.set(0, 0, 2);
        y.set(0, 1, 2);
        Check.due("17: not from a stone where they aren't", y.shaken(0, 1), 3);
        int[][] bad = {{0, 0}, {2, 0}, {0, 2}, {-1, 0}, {0, -1}};
        for (int[] b : bad) {
            Check.due("17: BAD", x.shaken(b[0], b[1]), -2);
        }
        x.set(0, 1, 1);
        Check.due("17: STATE", x.shaken(0, 1), -3);
        Check.due("17: in thought", x.told(1, 2), 1);
    }

    /** The thief's rug, wet by 1 more each way, wants so many yards more. */
    private static void shakenAtMostEight() {
        RolledUp x = new RolledUp();
        Check.due("17: text", Check.read(x, "wants wet * load; takes 0; lends 0;"), 1);
        x.force(1);
        x.one(3, 400, 0);
        x.one(3, 400, 1);
        x.mud(0, 1, 14);
        Check.due("17: 14 and 7 on the eighth way", x.shaken(0, 1), 8);
        x.mud(0, 1, 13);
        Check.due("17: 13 and 8 on the ninth way", x.shaken(0, 1), -1);
    }

    private static void printsLeft() {
        RolledUp x = new RolledUp();
        x.one(0, 990, 0);
        x.one(5, 200, 0);
        x.one(0, 110, 0);
        x.one(0, 120, 0);
        x.set(2, 1, 1);
        x.set(0, 1, 6);
        x.mud(0, 1, 12);
        Check.tell(x, 1, 1, 0, 1, 0, 1, 0);
        Check.due("18: four ways, wetter each", x.prints(1), 1 + 2 + 8);
        Check.tell(x, 1, 0, 0, 1, 0, 1, 0, 1);
        Check.due("18: five ways", x.prints(1), 1 + 8);
        Check.tell(x, 1, 2, 0, 1, 1);
        Check.due("18: a stone twice is no way", x.prints(1), 0);
        Check.tell(x, 1, 2, 1, 0);
        Check.due("18: one way, the other way round", x.prints(1), 1 + 2 + 8);
        Check.tell(x, 1, 2, 1, 0, 2);
        Check.due("18: no way", x.prints(1), 0);
        Check.due("18: in thought", x.told(1, 0), 6);
        Check.due("18: in thought", x.told(1, 2), 1);
        x.set(2, 1, 0);
        x.set(6, 0, 4);
        x.set(6, 1, 0);
        Check.tell(x, 1, 1, 0, 1, 0);
        Check.due("18: rain: wet 0, 8", x.prints(1), 1 + 2 + 8);
        x.set(6, 0, 5);
        Check.due("18: rain: wet 0, 9", x.prints(1), 1 + 8);
        x.set(5, 0, 1);
        Check.due("18: no rain now", x.prints(1), 1 + 2 + 8);
        Check.tell(x, 0, 0, 256, 257);
        Check.due("18: bytes: the lowest 8 bits", x.prints(0), 1 + 2 + 8);
    }

    private static void printsRefusals() {
        RolledUp x = new RolledUp();
        Check.due("18: BAD", x.prints(4), -2);
        Check.due("18: BAD below", x.prints(-1), -2);
        Check.due("18: missing", x.prints(3), -11);
        Check.tell(x, 3, 0);
        Check.due("18: none", x.prints(3), -2);
        Check.tell(x, 3, 0, 1);
        Check.due("18: one", x.prints(3), -2);
        Check.tell(x, 3, 0, 1, 2);
        Check.due("18: nobody", x.prints(3), 0);
        Check.tell(x, 3, 0, 1, 8);
        Check.due("18: no stone", x.prints(3), -2);
        Check.tell(x, 3, 0, -1, 1);
        Check.due("18: no stone below", x.prints(3), -2);
        Check.tell(x, 3, 2, 1, 2, 256);
        Check.due("18: no stone behind", x.prints(3), -2);
    }

    private static void outInRain() {
        RolledUp x = new RolledUp();
        x.one(0, 500, 0);
        x.mud(0, 1, 10);
        x.mud(1, 2, 10);
        for (int hour = 0; hour < 24; hour++) {
            x.set(6, hour, 9);
        }
        Check.due("19: like rain all day: at once", x.out(0, 2, 0), 0);
        Check.due("19: 10, 19", x.out(0, 2, 1), 29);
        x.set(6, 3, 0);
        Check.due("19: hour 3", x.out(0, 2, 0), 3);
        Check.due("19: 3, 10, 10", x.out(0, 2, 1), 23);
        x.set(6, 0, 3);
        Check.due("19: like ones: the first", x.out(0, 2, 0), 0);
        Check.due("19: 10, 13", x.out(0, 2, 1), 23);
        x.set(5, 0, 24 * 10 + 23);
        Check.due("19: from hour 23: 1 later", x.out(0, 2, 0), 1);
        Check.due("19: 1, 10, 13", x.out(0, 2, 1), 24);
        x.set(5, 0, 4);
        Check.due("19: from hour 4: now, as 20 later is too late", x.out(0, 2, 0), 0);
        Check.due("19: there", x.out(0, 0, 0), 0);
        Check.due("19: there", x.out(0, 0, 1), 0);
        Check.due("19: NONE", x.out(0, 5, 0), -1);
        Check.due("19: NONE", x.out(0, 5, 1), -1);
        Check.due("19: in thought", x.count(2), 4);
        int[][] bad = {{1, 0, 0}, {-1, 0, 0}, {0, 8, 0}, {0, -1, 0}, {0, 0, 2}, {0, 0, -1}};
        for (int[] b : bad) {
            Check.due("19: BAD", x.out(b[0], b[1], b[2]), -2);
        }
        Check.due("19: text", Check.read(x, "wants rain * 50; takes 0; lends 0;"), 1);
        x.force(1);
        Check.due("19: only in the last of 24 hours", x.out(0, 2, 0), 23);
        Check.due("19: 23, 20", x.out(0, 2, 1), 43);
    }

    private static void roads() {
        RolledUp x = new RolledUp();
        Check.due("20: nobody", x.road(5, 0), 1);
        Check.due("20: nobody", x.road(5, 1), 0);
        Check.due("20: nobody", x.road(5, 2), 0);
        x.one(0, 10, 0);
        x.one(0, 10, 0);
        x.set(0, 1, 5);
        x.mud(0, 5, 1);
        Check.due("20: like ones: the first pair", x.road(3, 0), 3);
        Check.due("20: both", x.road(3, 1), 2);
        Check.due("20: 1, 2", x.road(3, 2), 3);
        x.one(0, 10, 0);
        x.set(0, 2, 5);
        Check.due("20: fewest hours", x.road(3, 0), 35);
        Check.due("20: all three", x.road(3, 1), 3);
        Check.due("20: 2, 1, 1", x.road(3, 2), 4);
        x.mud(0, 5, 2);
        Check.due("20: most people", x.road(3, 0), 35);
        Check.due("20: two", x.road(3, 1), 2);
        Check.due("20: 1, 1", x.road(3, 2), 2);
        x.set(0, 0, 3);
        Check.due("20: who is there counts, too", x.road(3, 1), 3);
        Check.due("20: 0, 1, 1", x.road(3, 2), 2);
        Check.due("20: the road isn't made", x.far(3, 5), 0);
        Check.due("20: one pair with mud", x.count(1), 1);
        Check.due("20: the last pair", x.set(0, 0, 6) + x.set(0, 1, 6) + x.set(0, 2, 6), 3 + 5 + 5);
        Check.due("20: the last pair", x.road(7, 0), 67);
        Check.due("12: nor in thought, behind that", x.soonest(0, 7, 0), -1);
        int[][] bad = {{8, 0}, {-1, 0}, {0, 3}, {0, -1}};
        for (int[] b : bad) {
            Check.due("20: BAD", x.road(b[0], b[1]), -2);
        }
        RolledUp y = new RolledUp();
        y.one(0, 10, 0);
        y.one(0, 990, 0);
        y.set(0, 0, 1);
        y.mud(0, 4, 80);
        Check.due("20: two who come late are more than one who comes soon", y.road(4, 0), 14);
        Check.due("20: two", y.road(4, 1), 2);
        Check.due("20: 1, 80", y.road(4, 2), 81);
    }

    private static void judged() {
        RolledUp x = new RolledUp();
        x.one(5, 200, 0);
        x.one(0, 200, 0);
        x.mud(0, 1, 10);
        x.mud(1, 2, 15);
        x.set(6, 10, 9);
        Check.tell(x, 0, 0, 0, 1, 0, 2);
        Check.due("21: all can be gone", x.judge(0), -1);
        Check.tell(x, 0, 0, 0, 1, 0, 2, 0, 1);
        Check.due("21: at hour 10 it rains: wet 9", x.judge(0), 2);
        Check.tell(x, 0, 0, 1, 1, 1, 0, 0, 1, 0, 2, 0, 1);
        Check.due("21: at hour 39 there is no rain", x.judge(0), -1);
        Check.due("21: in thought", x.told(0, 0), 0);
        Check.due("21: in thought", x.told(0, 2), 0);
        Check.due("21: in thought", x.count(2), 0);
        Check.tell(x, 0, 0, 0, 1, 2, 1);
        Check.due("21: no such one", x.judge(0), 1);
        Check.tell(x, 0, 0, 0, 1, -1, 1);
        Check.due("21: no such one below", x.judge(0), 1);
        Check.tell(x, 0, 2, 0, 1, 0, 8);
        Check.due("21: no such stone", x.judge(0), 1);
        Check.tell(x, 0, 1, 0, -1);
        Check.due("21: no such stone below", x.judge(0), 0);
        Check.tell(x, 0, 1, 0, 0);
        Check.due("21: where it is", x.judge(0), 0);
        Check.tell(x, 0, 1);
        Check.due("21: no row", x.judge(0), -1);
        Check.tell(x, 0, 1, 0);
        Check.due("21: odd", x.judge(0), -2);
        Check.tell(x, 0, 1, 9, 9, 9);
        Check.due("21: odd, too", x.judge(0), -2);
        Check.due("21: missing", x.judge(3), -11);
        Check.due("21: BAD", x.judge(4), -2);
        Check.due("21: BAD below", x.judge(-1), -2);
    }

    private static int stoneOf(int z) {
        return (z >>> 9) % 8;
    }

    private static int next(int z) {
        return z * 1103515245 + 12345;
    }

    private static RolledUp meadow() {
        RolledUp x = new RolledUp();
        for (int a = 0; a < 8; a++) {
            for (int b = 0; b < a; b++) {
                x.mud(a, b, 1);
            }
        }
        return x;
    }

    private static void drawnDays() {
        RolledUp x = meadow();
        x.one(0, 10, 0);
        x.one(0, 10, 0);
        int[] seeds = {0, 1, 2, -1, 12345, Integer.MAX_VALUE, Integer.MIN_VALUE, -987654321};
        for (int seed : seeds) {
            int a = next(seed);
            int b = next(a);
            for (int to = 0; to < 8; to++) {
                int due = (stoneOf(a) == to ? 1 : 0) + (stoneOf(b) == to ? 1 : 0);
                Check.due("22: one round of seed " + seed, x.drawn(seed, 1, to), due);
                int c = next(b);
                int d = next(c);
                due = (stoneOf(c) == to ? 1 : 0) + (stoneOf(d) == to ? 1 : 0);
                Check.due("22: two rounds of seed " + seed, x.drawn(seed, 2, to), due);
            }
        }
        Check.due("22: no round", x.drawn(7, 0, 0), 2);
        Check.due("22: no round", x.drawn(7, 0, 1), 0);
        Check.due("22: BAD n", x.drawn(0, 31, 0), -2);
        Check.due("22: BAD n below", x.drawn(0, -1, 0), -2);
        Check.due("22: BAD stone", x.drawn(0, 0, 8), -2);
        Check.due("22: BAD stone below", x.drawn(0, 0, -1), -2);
        Check.due("22: in thought", x.told(0, 0), 0);
        Check.due("22: in thought", x.count(2), 0);
        x.set(1, 1, 0);
        int there = 0;
        for (int to = 1; to < 8; to++) {
            there += x.drawn(3, 30, to);
        }
        Check.due("22: who can't go stays", x.drawn(3, 30, 0) + there, 2);
        Check.due("22: 30 rounds", x.drawn(3, 30, 0) > 0 ? 1 : 0, 1);
    }

    private static void chances() {
        int[] starts = {0, 100, Integer.MAX_VALUE - 3};
        for (int start : starts) {
            RolledUp x = meadow();
            x.one(0, 10, 0);
            for (int to = 0; to < 8; to++) {
                for (int seeds = 1; seeds <= 20; seeds++) {
                    int hits = 0;
                    for (int i = 0; i < seeds; i++) {
                        hits += stoneOf(next(start + i)) == to ? 1 : 0;
                    }
                    long above = x.chance(start, seeds, 1, to, 0);
                    long below = x.chance(start, seeds, 1, to, 1);
                    Check.due("23: chance", above * seeds, below * hits);
                    Check.due("23: in lowest terms", java.math.BigInteger.valueOf(above).gcd(java.math.BigInteger.valueOf(below)).intValue(), 1);
                }
            }
        }
        RolledUp x = meadow();
        x.one(0, 10, 0);
        Check.due("23: always", x.chance(5, 20, 0, 0, 0), 1);
        Check.due("23: always", x.chance(5, 20, 0, 0, 1), 1);
        Check.due("23: never", x.chance(5, 20, 0, 1, 0), 0);
        Check.due("23: never", x.chance(5, 20, 0, 1, 1), 1);
        int[][] bad = {{0, 1, 0, 0}, {-1, 1, 0, 0}, {21, 1, 0, 0}, {1, -1, 0, 0}, {1, 31, 0, 0}, {1, 1, 8, 0}, {1, 1, -1, 0}, {1, 1, 0, 2}, {1, 1, 0, -1}};
        for (int[] b : bad) {
            Check.due("23: NO", x.chance(0, b[0], b[1], b[2], b[3]), NO);
        }
    }
}
