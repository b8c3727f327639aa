/** Promises 14 to 16: lend, owed, rings. */
public final class OwedTest {
    public static void main(String[] args) {
        lending();
        refusals();
        ringsOfTwo();
        ringsOfThree();
        ringsInOrder();
        Check.end();
    }

    private static RolledUp people(int n) {
        RolledUp x = new RolledUp();
        for (int i = 0; i < n; i++) {
            x.one(0, 500, 0);
        }
        return x;
    }

    /** By lending: who owes, whom, how much; YARDS are laid back. */
    private static void owe(RolledUp x, int who, int whom, int yards) {
        x.set(1, whom, 99);
        x.set(1, who, 0);
        Check.due("14: lending", x.lend(whom, who, yards), yards);
        x.set(1, whom, 50);
        x.set(1, who, 50);
    }

    private static void lending() {
        RolledUp x = people(3);
        x.set(6, 0, 2);
        Check.due("14: 1 + rain a yard", x.lend(0, 1, 10), 30);
        Check.due("14: so many less", x.told(0, 1), 40);
        Check.due("14: so many more", x.told(1, 1), 60);
        Check.due("14: what that one owes", x.owed(1, 0), 10);
        Check.due("15: it isn't owed the other way", x.owed(0, 1), 0);
        Check.due("14: once more", x.lend(0, 1, 39), 117);
        Check.due("14: 49 owed", x.owed(1, 0), 49);
        Check.due("14: all that is left", x.told(0, 1), 1);
        Check.due("14: just what it has", x.lend(0, 2, 1), 3);
        Check.due("14: nothing is left", x.told(0, 1), 0);
        Check.due("14: one hasn't so many", x.lend(0, 2, 1), -3);
        Check.due("14: 99 at most", x.lend(2, 1, 1), -3);
        Check.due("14: no hour has gone by", x.count(2), 0);
        Check.due("15: of itself", x.owed(0, 0), 0);
        Check.due("15: BAD one", x.owed(3, 0), -2);
        Check.due("15: BAD other", x.owed(0, 3), -2);
        Check.due("15: BAD one below", x.owed(-1, 0), -2);
        Check.due("15: BAD other below", x.owed(0, -1), -2);
        Check.due("26: owed in all", x.count(7), 50);
    }

    private static void refusals() {
        RolledUp x = people(2);
        int[][] bad = {{0, 0, 1}, {2, 0, 1}, {0, 2, 1}, {-1, 0, 1}, {0, -1, 1}, {0, 1, 0}, {0, 1, -1}, {0, 1, 100}};
        for (int[] b : bad) {
            Check.due("14: BAD", x.lend(b[0], b[1], b[2]), -2);
        }
        x.set(0, 1, 3);
        Check.due("14: STATE, not on one stone", x.lend(0, 1, 1), -3);
        Check.due("14: BAD is named ahead of STATE", x.lend(0, 1, 100), -2);
        x.set(0, 0, 3);
        x.set(1, 0, 99);
        x.set(1, 1, 1);
        Check.due("14: the other one would have 100", x.lend(0, 1, 99), -3);
        x.set(1, 1, 0);
        Check.due("14: 99", x.lend(0, 1, 99), 99);
        x.set(1, 0, 10);
        x.set(1, 1, 10);
        Check.due("14: it would owe 100", x.lend(0, 1, 1), -3);
        Check.due("14: the other way it can", x.lend(1, 0, 1), 1);
        Check.due("14: refused calls change nothing", x.told(0, 1), 11);
        Check.due("14: refused calls change nothing", x.owed(1, 0), 99);
    }

    private static void ringsOfTwo() {
        RolledUp x = people(4);
        Check.due("16: nothing owed", x.rings(), 0);
        owe(x, 0, 3, 8);
        owe(x, 3, 0, 5);
        owe(x, 1, 2, 4);
        owe(x, 2, 1, 6);
        Check.due("16: 5 and 4", x.rings(), 9);
        Check.due("16: left", x.owed(0, 3), 3);
        Check.due("16: none left", x.owed(3, 0), 0);
        Check.due("16: none left", x.owed(1, 2), 0);
        Check.due("16: left", x.owed(2, 1), 2);
        Check.due("16: yards stay", x.told(0, 1), 50);
        Check.due("16: none more", x.rings(), 0);
    }

    private static void ringsOfThree() {
        RolledUp x = people(5);
        owe(x, 0, 2, 7);
        owe(x, 2, 4, 9);
        owe(x, 4, 0, 8);
        Check.due("16: a owes b, b owes c, c owes a", x.rings(), 7);
        Check.due("16: left", x.owed(0, 2), 0);
        Check.due("16: left", x.owed(2, 4), 2);
        Check.due("16: left", x.owed(4, 0), 1);
        RolledUp y = people(5);
        owe(y, 1, 4, 3);
        owe(y, 4, 3, 2);
        owe(y, 3, 1, 6);
        Check.due("16: a owes c, c owes b, b owes a", y.rings(), 2);
        Check.due("16: left", y.owed(1, 4), 1);
        Check.due("16: left", y.owed(4, 3), 0);
        Check.due("16: left", y.owed(3, 1), 4);
        RolledUp z = people(4);
        owe(z, 0, 1, 1);
        owe(z, 1, 2, 1);
        owe(z, 2, 3, 1);
        owe(z, 3, 0, 1);
        Check.due("16: rings of four stay", z.rings(), 0);
        Check.due("16: rings of four stay", z.count(7), 4);
    }

    private static void ringsInOrder() {
        RolledUp x = people(3);
        owe(x, 0, 1, 5);
        owe(x, 1, 0, 3);
        owe(x, 1, 2, 5);
        owe(x, 2, 0, 5);
        Check.due("16: two first (3), then three (2)", x.rings(), 5);
        Check.due("16: left of 0, 1", x.owed(0, 1), 0);
        Check.due("16: left of 1, 2", x.owed(1, 2), 3);
        RolledUp y = people(4);
        owe(y, 0, 2, 5);
        owe(y, 2, 1, 5);
        owe(y, 1, 0, 5);
        owe(y, 2, 3, 5);
        owe(y, 3, 0, 5);
        Check.due("16: both rings of 0, 1, 2 ahead of those of 0, 2, 3", y.rings(), 5);
        Check.due("16: left of 2, 1", y.owed(2, 1), 0);
        Check.due("16: left of 2, 3", y.owed(2, 3), 5);
        RolledUp z = people(4);
        owe(z, 0, 1, 5);
        owe(z, 1, 2, 4);
        owe(z, 2, 0, 4);
        owe(z, 1, 3, 4);
        owe(z, 3, 0, 4);
        Check.due("16: 0, 1, 2 takes 4, 0, 1, 3 takes 1", z.rings(), 5);
        Check.due("16: left of 1, 2", z.owed(1, 2), 0);
        Check.due("16: left of 1, 3", z.owed(1, 3), 3);
    }
}
