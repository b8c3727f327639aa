import java.util.ArrayList;
import java.util.List;
import java.util.Random;

/** Many drawn runs of calls, each answered by the class and by the document written plainly. */
public final class OracleTest {
    private static final int CALLS = 512;
    private final Random dice;
    private final RolledUp x = new RolledUp();
    private final Oracle o = new Oracle();
    private final List<String> log = new ArrayList<>();
    private final int run;
    private int calls = 0;

    private OracleTest(int run) {
        this.run = run;
        dice = new Random(run);
    }

    public static void main(String[] args) {
        int runs = args.length > 0 ? Integer.parseInt(args[0]) : 1500;
        for (int run = 0; run < runs; run++) {
            new OracleTest(run).play();
        }
        Check.end();
    }

    private void due(String call, long got, long want) {
        calls++;
        log.add(call + " = " + got);
        Check.due("run " + run + " call " + calls + " " + call, got, want);
    }

    private int below(int n) {
        return dice.nextInt(n);
    }

    private boolean rarely() {
        return below(40) == 0;
    }

    /** Mostly a number from 0 to most, at times one beside or far off. */
    private int near(int most) {
        if (!rarely()) {
            return below(most + 1);
        }
        int[] odd = {-1, most + 1, Integer.MIN_VALUE, Integer.MAX_VALUE, -2, most + 2};
        return odd[below(odd.length)];
    }

    private int person() {
        return near(Math.max(0, o.people.size() - 1));
    }

    private int stone() {
        return near(7);
    }

    private void play() {
        int texts = below(3);
        for (int i = 0; i < texts; i++) {
            feed(drawText());
            text();
        }
        if (below(2) == 0) {
            force(o.texts.size() - 1);
        }
        int people = below(6);
        for (int i = 0; i < people; i++) {
            one(below(6), 10 * (15 + below(60)) + below(10), below(10));
        }
        int ways = below(25);
        int most = 10 + below(60);
        for (int i = 0; i < ways; i++) {
            mud(below(8), below(8), 1 + below(most));
        }
        int rainy = below(4);
        for (int i = 0; i < 24; i++) {
            if (below(4) < rainy) {
                set(6, i, below(rainy * 3 + 1));
            }
        }
        while (calls < CALLS) {
            call();
        }
    }

    private void call() {
        switch (below(31)) {
            case 0: mud(stone(), stone(), near(99)); break;
            case 1: { int a = stone(), b = stone(); due("far " + a + " " + b, x.far(a, b), o.far(a, b)); break; }
            case 2: one(near(5), near(999), near(9)); break;
            case 3: set(); break;
            case 4: { int a = person(), b = near(8); due("told " + a + " " + b, x.told(a, b), o.told(a, b)); break; }
            case 5: if (below(60) == 0 && calls < CALLS - 180) { feed(drawText()); text(); } break;
            case 6: if (below(40) == 0) { feedOne(near(255)); text(); } break;
            case 7: if (below(10) == 0) force(near(o.texts.size() - 1)); break;
            case 8: { int a = person(), b = stone(), c = near(1); due("can " + a + " " + b + " " + c, x.can(a, b, c), o.can(a, b, c)); break; }
            case 9: { int a = person(), b = stone(); due("go " + a + " " + b, x.go(a, b), o.go(a, b)); break; }
            case 10:
            case 11: { int a = person(), b = stone(), c = near(1); due("soonest " + a + " " + b + " " + c, x.soonest(a, b, c), o.soonest(a, b, c)); break; }
            case 12: { int a = person(), b = person(), c = stone(); due("together " + a + " " + b + " " + c, x.together(a, b, c), o.together(a, b, c)); break; }
            case 13:
            case 14: { int a = person(), b = person(), c = 1 + near(19); due("lend " + a + " " + b + " " + c, x.lend(a, b, c), o.lend(a, b, c)); break; }
            case 15: { int a = person(), b = person(); due("owed " + a + " " + b, x.owed(a, b), o.owed(a, b)); break; }
            case 16: if (below(4) == 0) due("rings", x.rings(), o.rings()); break;
            case 17:
            case 18: { int a = person(), b = person(); due("shaken " + a + " " + b, x.shaken(a, b), o.shaken(a, b)); break; }
            case 19: { int a = near(3); due("prints " + a, x.prints(a), o.prints(a)); break; }
            case 20: { int a = person(), b = stone(), c = near(1); due("out " + a + " " + b + " " + c, x.out(a, b, c), o.out(a, b, c)); break; }
            case 21: if (below(6) == 0) { int a = stone(), b = near(2); due("road " + a + " " + b, x.road(a, b), o.road(a, b)); } break;
            case 22: { int a = near(3); due("judge " + a, x.judge(a), o.judge(a)); break; }
            case 23: { int a = dice.nextInt(), b = near(30), c = stone(); due("drawn " + a + " " + b + " " + c, x.drawn(a, b, c), o.drawn(a, b, c)); break; }
            case 24: if (below(4) == 0) chance(); break;
            case 25: if (below(8) == 0) due("image", x.image(), o.image()); break;
            case 26: if (below(8) == 0) due("back", x.back(), o.back()); break;
            case 27: { int a = near(7); due("count " + a, x.count(a), o.count(a)); break; }
            case 28: sheet(); break;
            case 29: copyOrMuds(); break;
            default: { int a = person(), b = near(5); due("taken " + a + " " + b, x.taken(a, b), o.taken(a, b)); break; }
        }
    }

    private void mud(int from, int to, int v) {
        due("mud " + from + " " + to + " " + v, x.mud(from, to, v), o.mud(from, to, v));
    }

    private void one(int kind, int what, int load) {
        due("one " + kind + " " + what + " " + load, x.one(kind, what, load), o.one(kind, what, load));
    }

    private void force(int text) {
        due("force " + text, x.force(text), o.force(text));
    }

    private void feedOne(int letter) {
        due("feed " + letter, x.feed(letter), o.feed(letter));
    }

    private void feed(String text) {
        for (int i = 0; i < text.length(); i++) {
            feedOne(text.charAt(i));
        }
    }

    private void text() {
        due("text", x.text(), o.text());
    }

    private void set(int what, int of, int v) {
        due("set " + what + " " + of + " " + v, x.set(what, of, v), o.set(what, of, v));
    }

    private void set() {
        int what = near(6);
        int[] most = {7, 99, 9, 9, 9, 9999, 9};
        int of = what == 6 ? near(23) : person();
        int v = what >= 0 && what <= 6 ? near(most[what]) : below(5);
        if (what == 0 && below(2) == 0) {
            v = below(2);
        }
        set(what, of, v);
    }

    private void chance() {
        int seed = dice.nextInt();
        int seeds = 1 + near(19);
        int n = near(30);
        int to = stone();
        int part = near(1);
        due("chance " + seed + " " + seeds + " " + n + " " + to + " " + part, x.chance(seed, seeds, n, to, part), o.chance(seed, seeds, n, to, part));
    }

    private void sheet() {
        int s = near(3);
        int sort = near(3) - 1;
        int n = below(3) == 0 ? near(40) : 2 * below(4);
        due("sheet " + s + " " + sort + " " + n, x.sheet(s, sort, n), o.sheet(s, sort, n));
        for (int i = 0; i < n && i < 12 && calls < CALLS; i++) {
            int at = rarely() && n <= 40 ? near(n) : i;
            int v = rarely() ? dice.nextInt() : i % 2 == 0 ? below(5) : below(8);
            if (below(200) == 0) {
                v += 256 * below(3);
            }
            due("cell " + s + " " + at + " " + v, x.cell(s, at, v), o.cell(s, at, v));
        }
    }

    private void copyOrMuds() {
        if (below(2) == 0) {
            int a = near(3), i = near(8), b = below(3) == 0 ? a : near(3), j = near(8), n = near(8);
            due("copy " + a + " " + i + " " + b + " " + j + " " + n, x.copy(a, i, b, j, n), o.copy(a, i, b, j, n));
        } else {
            int a = near(3), sort = a >= 0 && a < 4 && o.sorts[a] >= 0 && below(5) > 0 ? o.sorts[a] : near(2), from = near(6), n = below(3) == 0 ? near(13) : below(3);
            due("muds " + a + " " + sort + " " + from + " " + n, x.muds(a, sort, from, n), o.muds(a, sort, from, n));
        }
    }

    // ---- texts

    private String drawText() {
        StringBuilder s = new StringBuilder();
        String[] heads = {"wants", "takes", "lends"};
        for (String head : heads) {
            s.append(head).append(' ').append(drawE(below(5))).append(below(2) == 0 ? ";" : " ;\n");
        }
        if (below(4) == 0 && s.length() > 0) {
            int at = below(s.length());
            String[] odd = {"(", ")", "-", "not ", "12345", "x", ";", " or ", "\t", "<", "= 1", "E", "((((((", "- - - - - -", "" + (char) 200};
            switch (below(3)) {
                case 0: s.insert(at, odd[below(odd.length)]); break;
                case 1: s.deleteCharAt(at); break;
                default: s.setLength(at);
            }
        }
        return s.length() > 160 ? s.substring(0, 160) : s.toString();
    }

    private String drawE(int depth) {
        String[] leaves = {"mud", "wet", "load", "rain", "from", "to", "0", "1", "2", "3", "7", "9999", "wet", "rain"};
        if (depth <= 0) {
            return leaves[below(leaves.length)];
        }
        String[] twos = {"+", "-", "*", "<", "=", " or ", " and ", "+", "-", "*"};
        switch (below(8)) {
            case 0: return "-" + drawE(depth - 1);
            case 1: return "not " + drawE(depth - 1);
            case 2: return "(" + drawE(depth - 1) + ")";
            default: return drawE(depth - 1 - below(2)) + twos[below(twos.length)] + drawE(depth - 2);
        }
    }
}
