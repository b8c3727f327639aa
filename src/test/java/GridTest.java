import java.lang.reflect.Method;
import java.util.ArrayList;
import java.util.HashMap;
import java.util.List;
import java.util.Map;

/** Every call with every choice of numbers at, beside and between its bounds, against Oracle, in three scenes. */
public final class GridTest {
    private static final int[] STONE = {-1, 0, 1, 7, 8}, ONE = {-1, 0, 1, 3, 4, 5}, SHEET = {-1, 0, 1, 2, 3, 4};
    private static final int[] PART = {-1, 0, 1, 2}, PLACE = {Integer.MIN_VALUE, -1, 0, 1, 3, 4, 6, 39, 40, Integer.MAX_VALUE};
    private static final int[] SEED = {Integer.MIN_VALUE, 0, 5, Integer.MAX_VALUE};
    private static final Map<String, Method[]> METHODS = new HashMap<>();

    private final int scene;
    private RolledUp x;
    private Oracle o;
    private int calls;

    private GridTest(int scene) {
        this.scene = scene;
    }

    public static void main(String[] args) throws Exception {
        for (Method m : RolledUp.class.getDeclaredMethods()) {
            Method[] both = {m, null};
            for (Method other : Oracle.class.getDeclaredMethods()) {
                if (other.getName().equals(m.getName()) && other.getParameterCount() == m.getParameterCount()) {
                    other.setAccessible(true);
                    both[1] = other;
                }
            }
            METHODS.put(m.getName(), both);
        }
        for (int scene = 0; scene < 3; scene++) {
            new GridTest(scene).grids();
        }
        Check.end();
    }

    private void grids() throws Exception {
        grid("mud", STONE, STONE, new int[] {-1, 0, 1, 99, 100});
        grid("far", STONE, STONE);
        grid("one", new int[] {-1, 0, 5, 6}, new int[] {-1, 0, 9, 10, 99, 999, 1000}, new int[] {-1, 0, 9, 10});
        grid("set", new int[] {-1, 0, 1, 2, 3, 4, 5, 6, 7}, new int[] {-1, 0, 3, 4, 5, 23, 24}, new int[] {-1, 0, 7, 8, 9, 10, 99, 100, 9999, 10000});
        grid("told", ONE, new int[] {-1, 0, 1, 2, 3, 4, 5, 6, 7, 8, 9});
        grid("feed", new int[] {-1, 0, 32, 255, 256});
        grid("text");
        grid("force", new int[] {-1, 0, 1, 2, 5, 6});
        grid("can", ONE, STONE, PART);
        grid("go", ONE, STONE);
        grid("soonest", ONE, STONE, PART);
        grid("together", ONE, ONE, STONE);
        grid("lend", ONE, ONE, new int[] {-1, 0, 1, 30, 31, 35, 36, 99, 100});
        grid("owed", ONE, ONE);
        grid("rings");
        grid("shaken", ONE, ONE);
        grid("prints", SHEET);
        grid("out", ONE, STONE, PART);
        grid("road", STONE, new int[] {-1, 0, 1, 2, 3});
        grid("judge", SHEET);
        grid("drawn", SEED, new int[] {-1, 0, 1, 30, 31}, STONE);
        grid("chance", new int[] {0, Integer.MAX_VALUE - 3}, new int[] {-1, 0, 1, 20, 21}, new int[] {-1, 0, 30, 31}, STONE, PART);
        grid("image");
        grid("back");
        grid("count", new int[] {-1, 0, 1, 2, 3, 4, 5, 6, 7, 8});
        grid("sheet", SHEET, new int[] {-2, -1, 0, 1, 2, 3}, new int[] {Integer.MIN_VALUE, -1, 0, 1, 40, 41, Integer.MAX_VALUE});
        grid("cell", SHEET, PLACE, new int[] {Integer.MIN_VALUE, -1, 0, 7, 256, 65536 + 1, Integer.MAX_VALUE});
        grid("copy", SHEET, PLACE, SHEET, new int[] {-1, 0, 1, 3, 4, 39, 40, Integer.MAX_VALUE}, new int[] {-1, 0, 1, 3, 4, 40, Integer.MAX_VALUE});
        grid("muds", SHEET, new int[] {-1, 0, 1, 2, 3}, PLACE, new int[] {-1, 0, 1, 2, 12, 13, 14});
        grid("taken", ONE, new int[] {-1, 0, 1, 2, 3, 4, 5, 6});
    }

    private void grid(String name, int[]... values) throws Exception {
        List<int[]> rows = new ArrayList<>();
        rows.add(new int[0]);
        for (int[] choice : values) {
            List<int[]> longer = new ArrayList<>();
            for (int[] row : rows) {
                for (int v : choice) {
                    int[] more = java.util.Arrays.copyOf(row, row.length + 1);
                    more[row.length] = v;
                    longer.add(more);
                }
            }
            rows = longer;
        }
        x = null;
        for (int[] row : rows) {
            if (x == null || calls >= 512 - 40) {
                begin();
            }
            call(name, row);
            look();
        }
    }

    private void call(String name, int... args) throws Exception {
        Object[] boxed = new Object[args.length];
        for (int i = 0; i < args.length; i++) {
            boxed[i] = args[i];
        }
        calls++;
        Method[] both = METHODS.get(name);
        Number got = (Number) both[0].invoke(x, boxed);
        Number want = (Number) both[1].invoke(o, boxed);
        Check.due("scene " + scene + ": " + name + java.util.Arrays.toString(args), got.longValue(), want.longValue());
    }

    /** A few numbers that most calls that change something change. */
    private void look() throws Exception {
        for (int what = 0; what < 8; what++) {
            call("count", what);
        }
        for (int what = 0; what < 3; what++) {
            call("told", calls % 5, what);
        }
    }

    private void begin() throws Exception {
        x = new RolledUp();
        o = new Oracle();
        calls = 0;
        if (scene == 0) {
            return;
        }
        read("wants load;takes to;lends wet+2;");
        call("force", 1);
        call("one", 1, 305, 2);
        call("one", 4, 406, 3);
        call("one", 5, 507, 1);
        call("one", 0, 600, 0);
        int[][] muds = {{0, 1, 13}, {1, 7, 12}, {7, 3, 20}, {0, 3, 60}, {6, 7, 99}};
        for (int[] mud : muds) {
            call("mud", mud);
        }
        call("lend", 0, 1, 7);
        call("lend", 1, 0, 3);
        call("lend", 3, 0, 20);
        call("set", 0, 3, 7);
        call("set", 6, 5, 4);
        call("set", 5, 0, 29);
        call("image");
        call("sheet", 0, 0, 6);
        call("cell", 0, 1, 1);
        call("cell", 0, 2, 7);
        call("sheet", 1, 1, 4);
        call("cell", 1, 1, 1);
        call("cell", 1, 3, 7);
        call("sheet", 2, 0, 3);
        call("set", 5, 0, 30);
        if (scene == 2) {
            fill();
        }
    }

    private void fill() throws Exception {
        call("one", 3, 999, 9);
        for (int n = 0; n < 4; n++) {
            read("wants 0;takes 0;lends 0;");
        }
        call("sheet", 0, 0, 40);
        call("sheet", 1, 0, 40);
        call("sheet", 3, 0, 40);
        for (int i = 0; i < 160; i++) {
            call("feed", 32);
        }
    }

    private void read(String text) throws Exception {
        for (char c : text.toCharArray()) {
            call("feed", c);
        }
        call("text");
    }
}
