import java.util.ArrayList;
import java.util.List;

/**
 * A scene with something of everything, and all that can be asked of an object: two scenes that are made alike answer
 * alike, so a call that is refused on one of them, but not made on its twin, is seen to have changed nothing.
 */
final class Scene {
    /** PEOPLE, TEXTS of the scene, and the STONES on which its people are. */
    static final int PEOPLE = 4, TEXTS = 2;
    /** MISSING tells nothing; ODD is one of shorts, 0 1 2; ROWS one of ints, 0 1 1 1; BYTES 0 1 10 2 3 20. */
    static final int BYTES = 0, ODD = 1, ROWS = 2, MISSING = 3;

    interface Call {
        long on(RolledUp x);
    }

    interface Step {
        void on(RolledUp x);
    }

    interface Asked {
        long on(RolledUp x, int[] a);
    }

    private Scene() {
    }

    /** 0, 1, 2 are on STONE 0, 3 is on STONE 2; the image is of an earlier time, with three. */
    static RolledUp make() {
        RolledUp x = new RolledUp();
        Check.read(x, "wants load;takes to;lends wet+2;");
        x.force(1);
        x.one(1, 305, 2);
        x.one(4, 406, 3);
        x.one(5, 507, 1);
        x.mud(0, 1, 11);
        x.mud(1, 2, 12);
        x.mud(6, 7, 99);
        x.lend(0, 1, 7);
        x.lend(1, 2, 9);
        x.lend(2, 0, 4);
        x.lend(1, 0, 3);
        x.set(5, 0, 29);
        x.set(6, 0, 9);
        x.set(6, 5, 4);
        x.image();
        x.one(0, 600, 0);
        x.set(0, 3, 2);
        x.mud(0, 1, 13);
        x.mud(2, 3, 20);
        x.mud(0, 3, 60);
        x.set(2, 0, 1);
        x.set(2, 1, 2);
        x.set(5, 0, 53);
        x.set(6, 23, 1);
        Check.tell(x, BYTES, 0, 0, 1, 10, 2, 3, 20);
        Check.tell(x, ODD, 1, 0, 1, 2);
        Check.tell(x, ROWS, 2, 0, 1, 1, 1);
        for (char c : "wants 7;takes 7;lends 7;".toCharArray()) {
            x.feed(c);
        }
        return x;
    }

    /** Answers that tell all of an object; it is not what it was behind that. */
    static List<Long> all(RolledUp x) {
        List<Long> v = new ArrayList<>();
        state(x, v);
        sheets(x, v);
        texts(x, v);
        v.add((long) x.back());
        state(x, v);
        return v;
    }

    private static void state(RolledUp x, List<Long> v) {
        for (int what = 0; what < 8; what++) {
            v.add((long) x.count(what));
        }
        for (int a = 0; a < 8; a++) {
            for (int b = 0; b < a; b++) {
                v.add((long) x.far(a, b));
            }
        }
        int people = x.count(0);
        for (int one = 0; one < people; one++) {
            for (int what = 0; what < 6; what++) {
                v.add((long) x.told(one, what));
            }
            for (int other = 0; other < people; other++) {
                if (one != other) {
                    v.add((long) x.owed(one, other));
                }
            }
        }
        for (int hour = 0; hour < 24; hour++) {
            v.add((long) x.set(6, hour, 0));
        }
    }

    /** Sort, size and the first numbers of each sheet; the last sheet, once told of, is used to look at the others. */
    private static void sheets(RolledUp x, List<Long> v) {
        for (int sheet = 3; sheet >= 0; sheet--) {
            int sort = -1;
            for (int s = 0; s < 3; s++) {
                int is = x.muds(sheet, s, 0, 0);
                v.add((long) is);
                sort = is == 0 ? s : sort;
            }
            int size = 0;
            for (int step = 32; step > 0; step /= 2) {
                size += x.copy(sheet, 0, sheet, 0, size + step) > 0 ? step : 0;
            }
            v.add((long) size);
            if (sheet < 3 && sort >= 0) {
                numbers(x, sheet, sort, Math.min(size, 6), v);
            }
        }
    }

    private static void numbers(RolledUp x, int sheet, int sort, int n, List<Long> v) {
        x.sheet(3, sort, 3);
        x.cell(3, 1, 1);
        for (int i = 0; i < n; i++) {
            x.copy(sheet, i, 3, 2, 1);
            v.add((long) x.muds(3, sort, 0, 1));
            v.add((long) x.far(0, 1));
        }
    }

    /** What the texts and the tape say is seen by what lending costs. */
    private static void texts(RolledUp x, List<Long> v) {
        v.add((long) x.text());
        int texts = x.count(4);
        if (x.count(0) < 2) {
            return;
        }
        x.set(0, 0, 0);
        x.set(0, 1, 0);
        x.set(1, 0, 50);
        x.set(1, 1, 0);
        for (int text = 0; text < texts; text++) {
            v.add((long) x.force(text));
            v.add((long) x.lend(0, 1, 1));
        }
    }

    /** The call answers what is due, and changes nothing of what the steps before made of the scene. */
    static void still(String what, long due, Step before, Call call) {
        RolledUp x = make();
        before.on(x);
        RolledUp twin = make();
        before.on(twin);
        Check.due(what, call.on(x), due);
        List<Long> got = all(x);
        List<Long> want = all(twin);
        Check.due(what + ": as many answers behind it", got.size(), want.size());
        for (int i = 0; i < got.size() && i < want.size(); i++) {
            Check.due(what + ": it changes nothing, answer " + i, got.get(i), want.get(i));
        }
    }

    static void still(String what, long due, Call call) {
        still(what, due, x -> { }, call);
    }

    /**
     * With each of the arguments in turn just outside its bounds, or far off, the call answers `due` and changes
     * nothing; with the least and the most it does not answer so. `good` is taken, `bounds` are pairs of least, most.
     */
    static void bounds(String what, long due, Step before, int[] good, int[][] bounds, Asked call) {
        for (int at = 0; at < good.length; at++) {
            if (bounds[at] == null) {
                continue;
            }
            int least = bounds[at][0];
            int most = bounds[at][1];
            for (int v : new int[] {least - 1, most + 1, least - 256, most + 256, least + 65536, Integer.MIN_VALUE, Integer.MAX_VALUE}) {
                int[] a = good.clone();
                a[at] = v;
                still(what + ", argument " + at + " is " + v, due, before, x -> call.on(x, a));
            }
            for (int v : new int[] {least, most}) {
                int[] a = good.clone();
                a[at] = v;
                RolledUp x = make();
                before.on(x);
                Check.due(what + ", argument " + at + " may be " + v, call.on(x, a) == due ? 0 : 1, 1);
            }
        }
    }

    static void bounds(String what, long due, int[] good, int[][] bounds, Asked call) {
        bounds(what, due, x -> { }, good, bounds, call);
    }
}
