import java.util.ArrayList;
import java.util.Arrays;
import java.util.HashMap;
import java.util.List;
import java.util.Map;
import java.util.TreeSet;

/** The document once more, written as plainly as can be and with no thought of room or time. */
final class Oracle {
    static final int NONE = -1, BAD = -2, STATE = -3, FULL = -4;
    static final long NO = -4611686018427387904L;

    // ---- kinds, each told by the one above it

    static class Rug {
        int stone, yards, wet, load, number;

        int rawReach(int w) { return yards; }
        int rawLast(int mud) { return mud; }
        int rawSoak(int w, int rain) { return w + rain; }

        final int reach(int w) { return Math.max(0, rawReach(w)); }
        final int last(int mud) { return Math.max(1, rawLast(mud)); }
        final int soak(int w, int rain) { return Math.max(0, Math.min(9, rawSoak(w, rain))); }
    }

    static class Long_ extends Rug {
        @Override int rawReach(int w) { return super.rawReach(w) + number; }
        @Override int rawLast(int mud) { return super.rawLast(mud) + load; }
    }

    static class Tarred extends Rug {
        @Override int rawReach(int w) { return super.rawReach(w) - w / 2; }
        @Override int rawLast(int mud) { return super.rawLast(mud) - number; }
        @Override int rawSoak(int w, int rain) { return super.rawSoak(w, rain) / 2; }
    }

    static class Double_ extends Long_ {
        @Override int rawReach(int w) { return super.rawReach(w) / 2; }
        @Override int rawLast(int mud) { return super.rawLast(mud) * 2; }
        @Override int rawSoak(int w, int rain) { return super.rawSoak(w, rain) + 1; }
    }

    static class Oiled extends Tarred {
        @Override int rawReach(int w) { return w > number ? super.rawReach(w) : yards; }
        @Override int rawSoak(int w, int rain) { return w; }
    }

    static class Ragged extends Long_ {
        @Override int rawReach(int w) { return super.rawReach(w) - w; }
        @Override int rawLast(int mud) { return super.rawLast(mud) + number; }
        @Override int rawSoak(int w, int rain) { return super.rawSoak(w, rain) * 2; }
    }

    static final Class<?>[] KINDS = {Rug.class, Long_.class, Tarred.class, Double_.class, Oiled.class, Ragged.class};

    static Rug newRug(int kind) {
        switch (kind) {
            case 1: return new Long_();
            case 2: return new Tarred();
            case 3: return new Double_();
            case 4: return new Oiled();
            case 5: return new Ragged();
            default: return new Rug();
        }
    }

    static int kindOf(Rug rug) {
        return Arrays.asList(KINDS).indexOf(rug.getClass());
    }

    // ---- texts, read anew whenever one is asked

    static final class Fault extends RuntimeException {
        final int place;
        Fault(int place) { this.place = place; }
    }

    record Token(String what, int place) { }

    static List<Token> tokens(String s) {
        List<Token> all = new ArrayList<>();
        List<String> words = List.of("mud", "wet", "load", "rain", "from", "to", "wants", "takes", "lends", "or", "and", "not");
        int i = 0;
        while (i < s.length()) {
            char c = s.charAt(i);
            int j = i + 1;
            if (c == 32 || c == 10) {
                i++;
                continue;
            }
            String what = "?";
            if (c >= 'a' && c <= 'z') {
                while (j < s.length() && s.charAt(j) >= 'a' && s.charAt(j) <= 'z') j++;
                if (words.contains(s.substring(i, j))) what = s.substring(i, j);
            } else if (c >= '0' && c <= '9') {
                while (j < s.length() && s.charAt(j) >= '0' && s.charAt(j) <= '9') j++;
                if (j - i <= 4) what = s.substring(i, j);
            } else if ("();+-*<=".indexOf(c) >= 0) {
                what = "" + c;
            }
            all.add(new Token(what, i));
            i = j;
        }
        all.add(new Token("", s.length()));
        return all;
    }

    static final class Reader {
        final List<Token> all;
        final Map<String, Integer> names;
        int i = 0;

        Reader(String s, Map<String, Integer> names) {
            all = tokens(s);
            this.names = names;
        }

        String peek() { return all.get(i).what(); }
        Fault fault() { return new Fault(all.get(i).place()); }

        void want(String what) {
            if (!peek().equals(what)) throw fault();
            i++;
        }

        boolean eat(String what) {
            if (!peek().equals(what)) return false;
            i++;
            return true;
        }

        int[] whole() {
            int[] v = new int[3];
            String[] heads = {"wants", "takes", "lends"};
            for (int k = 0; k < 3; k++) {
                want(heads[k]);
                v[k] = e(0);
                want(";");
            }
            want("");
            return v;
        }

        int e(int open) {
            int v = and(open);
            while (eat("or")) {
                int w = and(open);
                v = v != 0 || w != 0 ? 1 : 0;
            }
            return v;
        }

        int and(int open) {
            int v = not(open);
            while (eat("and")) {
                int w = not(open);
                v = v != 0 && w != 0 ? 1 : 0;
            }
            return v;
        }

        int not(int open) {
            if (peek().equals("not")) {
                if (open == 5) throw fault();
                i++;
                return not(open + 1) == 0 ? 1 : 0;
            }
            int v = sum(open);
            if (eat("<")) return v < sum(open) ? 1 : 0;
            if (eat("=")) return v == sum(open) ? 1 : 0;
            return v;
        }

        int sum(int open) {
            int v = term(open);
            while (true) {
                if (eat("+")) v += term(open);
                else if (eat("-")) v -= term(open);
                else return v;
            }
        }

        int term(int open) {
            int v = one(open);
            while (eat("*")) v *= one(open);
            return v;
        }

        int one(int open) {
            String t = peek();
            if (!t.isEmpty() && Character.isDigit(t.charAt(0))) {
                i++;
                return Integer.parseInt(t);
            }
            if (names.containsKey(t)) {
                i++;
                return names.get(t);
            }
            if ((t.equals("-") || t.equals("(")) && open < 5) {
                i++;
                if (t.equals("-")) return -one(open + 1);
                int v = e(open + 1);
                want(")");
                return v;
            }
            throw fault();
        }
    }

    static Map<String, Integer> names(int mud, int wet, int load, int rain, int from, int to) {
        Map<String, Integer> m = new HashMap<>();
        m.put("mud", mud);
        m.put("wet", wet);
        m.put("load", load);
        m.put("rain", rain);
        m.put("from", from);
        m.put("to", to);
        return m;
    }

    // ---- state

    int[][] mud = new int[8][8];
    List<Rug> people = new ArrayList<>();
    int[][] owed = new int[5][5];
    int hour;
    int[] rain = new int[24];
    int rule;
    List<String> texts = new ArrayList<>(List.of("wants 0 ; takes wet ; lends 1 + rain ;"));
    StringBuilder tape = new StringBuilder();
    int[][] sheets = new int[4][];
    int[] sorts = {-1, -1, -1, -1};
    Oracle image;
    Map<String, int[]> asked = new HashMap<>();

    static Oracle copyOf(Oracle o) {
        Oracle c = new Oracle();
        for (int i = 0; i < 8; i++) c.mud[i] = o.mud[i].clone();
        for (int i = 0; i < 5; i++) c.owed[i] = o.owed[i].clone();
        for (Rug r : o.people) {
            Rug n = newRug(kindOf(r));
            n.stone = r.stone;
            n.yards = r.yards;
            n.wet = r.wet;
            n.load = r.load;
            n.number = r.number;
            c.people.add(n);
        }
        c.hour = o.hour;
        c.rain = o.rain.clone();
        c.rule = o.rule;
        c.texts = o.texts;
        c.asked = o.asked;
        return c;
    }

    boolean isOne(int one) { return one >= 0 && one < people.size(); }
    static boolean isStone(int s) { return s >= 0 && s < 8; }
    static boolean isSheet(int s) { return s >= 0 && s < 4; }
    int rainNow() { return rain[hour % 24]; }

    int ask(int part, int m, int wet, int load, int r, int from, int to) {
        String key = texts.get(rule) + m + "," + wet + "," + load + "," + r + "," + from + "," + to;
        int[] v = asked.get(key);
        if (v == null) {
            v = new Reader(texts.get(rule), names(m, wet, load, r, from, to)).whole();
            asked.put(key, v);
        }
        return Math.max(0, Math.min(99, v[part]));
    }

    boolean canWay(Rug r, int wet, int from, int to, int rn) {
        int m = mud[from][to];
        return m > 0 && r.reach(wet) >= m + ask(0, m, wet, r.load, rn, from, to);
    }

    int timeOf(Rug r, int wet, int from, int to, int rn) {
        int m = mud[from][to];
        return r.last(m) + ask(1, m, wet, r.load, rn, from, to);
    }

    boolean goes(int one, int to) {
        Rug r = people.get(one);
        int rn = rainNow();
        if (!canWay(r, r.wet, r.stone, to, rn)) return false;
        hour = Math.min(9999, hour + timeOf(r, r.wet, r.stone, to, rn));
        r.wet = r.soak(r.wet, rn);
        r.stone = to;
        return true;
    }

    /** Hours and first stone, or null: by fewest hours, then least first stone, over stones and wetness. */
    int[] soon(Rug r, int to, int rn) {
        record Mark(int hours, int first, int stone, int wet) { }
        TreeSet<Mark> open = new TreeSet<>((a, b) -> {
            if (a.hours != b.hours) return Integer.compare(a.hours, b.hours);
            if (a.first != b.first) return Integer.compare(a.first, b.first);
            if (a.stone != b.stone) return Integer.compare(a.stone, b.stone);
            return Integer.compare(a.wet, b.wet);
        });
        boolean[][] shut = new boolean[8][10];
        open.add(new Mark(0, -1, r.stone, r.wet));
        while (!open.isEmpty()) {
            Mark m = open.pollFirst();
            if (m.stone == to) return new int[] {m.hours, m.first};
            if (shut[m.stone][m.wet]) continue;
            shut[m.stone][m.wet] = true;
            for (int s = 0; s < 8; s++) {
                if (canWay(r, m.wet, m.stone, s, rn)) {
                    int h = m.hours + timeOf(r, m.wet, m.stone, s, rn);
                    open.add(new Mark(h, m.first < 0 ? s : m.first, s, r.soak(m.wet, rn)));
                }
            }
        }
        return null;
    }

    // ---- the face

    int mud(int from, int to, int v) {
        if (!isStone(from) || !isStone(to) || from == to || v < 0 || v > 99) return BAD;
        int was = mud[from][to];
        mud[from][to] = v;
        mud[to][from] = v;
        return was;
    }

    int far(int from, int to) {
        if (!isStone(from) || !isStone(to) || from == to) return BAD;
        return mud[from][to];
    }

    int one(int kind, int what, int load) {
        if (kind < 0 || kind > 5 || what < 0 || what > 999 || load < 0 || load > 9) return BAD;
        if (people.size() == 5) return FULL;
        Rug r = newRug(kind);
        r.yards = what / 10;
        r.number = what % 10;
        r.load = load;
        people.add(r);
        return people.size() - 1;
    }

    int set(int what, int of, int v) {
        if (what < 0 || what > 6 || v < 0) return BAD;
        int was;
        if (what == 5) {
            if (v > 9999) return BAD;
            was = hour;
            hour = v;
            return was;
        }
        if (what == 6) {
            if (of < 0 || of > 23 || v > 9) return BAD;
            was = rain[of];
            rain[of] = v;
            return was;
        }
        if (!isOne(of)) return BAD;
        Rug r = people.get(of);
        if (what == 0) {
            if (v > 7) return BAD;
            was = r.stone;
            r.stone = v;
        } else if (what == 1) {
            if (v > 99) return BAD;
            was = r.yards;
            r.yards = v;
        } else {
            if (v > 9) return BAD;
            if (what == 2) {
                was = r.wet;
                r.wet = v;
            } else if (what == 3) {
                was = r.load;
                r.load = v;
            } else {
                was = r.number;
                r.number = v;
            }
        }
        return was;
    }

    int told(int one, int what) {
        if (!isOne(one) || what < 0 || what > 8) return BAD;
        Rug r = people.get(one);
        int[] v = {r.stone, r.yards, r.wet, r.load, r.number, kindOf(r), r.reach(r.wet), 0, 0};
        for (int i = 0; i < 5; i++) {
            v[7] += owed[one][i];
            v[8] += owed[i][one];
        }
        return v[what];
    }

    int feed(int letter) {
        if (letter < 0 || letter > 255) return BAD;
        if (tape.length() == 160) return FULL;
        tape.append((char) letter);
        return tape.length();
    }

    int text() {
        if (texts.size() == 6) return FULL;
        String s = tape.toString();
        tape.setLength(0);
        try {
            new Reader(s, names(0, 0, 0, 0, 0, 0)).whole();
        } catch (Fault f) {
            return -100 - f.place;
        }
        texts.add(s);
        return texts.size() - 1;
    }

    int force(int text) {
        if (text < 0 || text >= texts.size()) return BAD;
        int was = rule;
        rule = text;
        return was;
    }

    int can(int one, int to, int what) {
        if (!isOne(one) || !isStone(to) || what < 0 || what > 1) return BAD;
        Rug r = people.get(one);
        boolean can = canWay(r, r.wet, r.stone, to, rainNow());
        if (what == 0) return can ? 1 : 0;
        return can ? timeOf(r, r.wet, r.stone, to, rainNow()) : NONE;
    }

    int go(int one, int to) {
        if (!isOne(one) || !isStone(to)) return BAD;
        return goes(one, to) ? hour : STATE;
    }

    int soonest(int one, int to, int what) {
        if (!isOne(one) || !isStone(to) || what < 0 || what > 1) return BAD;
        int[] s = soon(people.get(one), to, rainNow());
        return s == null ? NONE : s[what];
    }

    int together(int one, int other, int to) {
        if (!isOne(one) || !isOne(other) || one == other || !isStone(to)) return BAD;
        Rug a = people.get(one);
        Rug b = people.get(other);
        if (a.stone != b.stone) return STATE;
        List<Integer> queue = new ArrayList<>(List.of(a.stone));
        Map<Integer, Integer> ways = new HashMap<>(Map.of(a.stone, 0));
        for (int i = 0; i < queue.size(); i++) {
            int from = queue.get(i);
            if (from == to) return ways.get(from);
            for (int s = 0; s < 8; s++) {
                int m = mud[from][s];
                if (m == 0 || ways.containsKey(s)) continue;
                int wants = ask(0, m, a.wet, a.load, rainNow(), from, s) + ask(0, m, b.wet, b.load, rainNow(), from, s);
                if (a.reach(a.wet) + b.reach(b.wet) >= m + wants) {
                    ways.put(s, ways.get(from) + 1);
                    queue.add(s);
                }
            }
        }
        return NONE;
    }

    int lend(int one, int other, int yards) {
        if (!isOne(one) || !isOne(other) || one == other || yards < 1 || yards > 99) return BAD;
        Rug a = people.get(one);
        Rug b = people.get(other);
        if (a.stone != b.stone || a.yards < yards || b.yards + yards > 99 || owed[other][one] + yards > 99) return STATE;
        a.yards -= yards;
        b.yards += yards;
        owed[other][one] += yards;
        return yards * ask(2, 0, a.wet, a.load, rainNow(), a.stone, a.stone);
    }

    int owed(int one, int other) {
        if (!isOne(one) || !isOne(other)) return BAD;
        return owed[one][other];
    }

    private int ring(int... who) {
        int least = 99;
        for (int i = 0; i < who.length; i++) least = Math.min(least, owed[who[i]][who[(i + 1) % who.length]]);
        for (int i = 0; i < who.length; i++) owed[who[i]][who[(i + 1) % who.length]] -= least;
        return least;
    }

    int rings() {
        int all = 0;
        for (int a = 0; a < 5; a++) for (int b = a + 1; b < 5; b++) all += ring(a, b);
        for (int a = 0; a < 5; a++) for (int b = a + 1; b < 5; b++) for (int c = b + 1; c < 5; c++) {
            all += ring(a, b, c);
            all += ring(a, c, b);
        }
        return all;
    }

    private int shake(Rug a, int aw, Rug b, int bw, int at, int left, Map<String, Integer> seen) {
        if (left == 0) return 99;
        String key = aw + "," + bw + "," + at + "," + left;
        Integer known = seen.get(key);
        if (known != null) return known;
        int best = 99;
        for (int s = 0; s < 8; s++) {
            if (!canWay(a, aw, at, s, rainNow())) continue;
            if (!canWay(b, bw, at, s, rainNow())) best = Math.min(best, 1);
            else best = Math.min(best, 1 + shake(a, a.soak(aw, rainNow()), b, b.soak(bw, rainNow()), s, left - 1, seen));
        }
        seen.put(key, best);
        return best;
    }

    int shaken(int one, int thief) {
        if (!isOne(one) || !isOne(thief) || one == thief) return BAD;
        Rug a = people.get(one);
        Rug b = people.get(thief);
        if (a.stone != b.stone) return STATE;
        int ways = shake(a, a.wet, b, b.wet, a.stone, 8, new HashMap<>());
        return ways <= 8 ? ways : NONE;
    }

    int prints(int sheet) {
        if (!isSheet(sheet)) return BAD;
        int[] s = sheets[sheet];
        if (s == null) return -11;
        if (s.length < 2) return BAD;
        for (int v : s) if (!isStone(v)) return BAD;
        int bits = 0;
        for (int one = 0; one < people.size(); one++) {
            Rug r = people.get(one);
            int wet = r.wet;
            boolean all = true;
            for (int i = 0; i + 1 < s.length; i++) {
                all &= canWay(r, wet, s[i], s[i + 1], rainNow());
                wet = r.soak(wet, rainNow());
            }
            if (all) bits |= 1 << one;
        }
        return bits;
    }

    int out(int one, int to, int what) {
        if (!isOne(one) || !isStone(to) || what < 0 || what > 1) return BAD;
        int best = NONE;
        int bestD = NONE;
        for (int d = 0; d < 24; d++) {
            int[] s = soon(people.get(one), to, rain[(hour + d) % 24]);
            if (s != null && (best == NONE || d + s[0] < best)) {
                best = d + s[0];
                bestD = d;
            }
        }
        return what == 0 ? bestD : best;
    }

    int road(int to, int what) {
        if (!isStone(to) || what < 0 || what > 2) return BAD;
        int pair = NONE;
        int most = NONE;
        int fewest = 0;
        for (int a = 0; a < 8; a++) for (int b = a + 1; b < 8; b++) {
            int was = mud(a, b, 1);
            int come = 0;
            int hours = 0;
            for (Rug r : people) {
                int[] s = soon(r, to, rainNow());
                if (s != null) {
                    come++;
                    hours += s[0];
                }
            }
            mud(a, b, was);
            if (come > most || come == most && hours < fewest) {
                pair = 10 * a + b;
                most = come;
                fewest = hours;
            }
        }
        return what == 0 ? pair : what == 1 ? most : fewest;
    }

    int judge(int sheet) {
        if (!isSheet(sheet)) return BAD;
        int[] s = sheets[sheet];
        if (s == null) return -11;
        if (s.length % 2 == 1) return BAD;
        Oracle t = copyOf(this);
        for (int i = 0; i < s.length; i += 2) {
            if (!isOne(s[i]) || !isStone(s[i + 1]) || !t.goes(s[i], s[i + 1])) return i / 2;
        }
        return NONE;
    }

    int drawn(int seed, int n, int to) {
        if (n < 0 || n > 30 || !isStone(to)) return BAD;
        Oracle t = copyOf(this);
        int z = seed;
        for (int k = 0; k < n; k++) {
            for (int one = 0; one < people.size(); one++) {
                z = z * 1103515245 + 12345;
                t.goes(one, (z >>> 9) % 8);
            }
        }
        int there = 0;
        for (Rug r : t.people) if (r.stone == to) there++;
        return there;
    }

    long chance(int seed, int seeds, int n, int to, int part) {
        if (seeds < 1 || seeds > 20 || n < 0 || n > 30 || !isStone(to) || part < 0 || part > 1) return NO;
        int hits = 0;
        for (int i = 0; i < seeds; i++) if (drawn(seed + i, n, to) > 0) hits++;
        int a = hits;
        int b = seeds;
        while (b != 0) {
            int c = a % b;
            a = b;
            b = c;
        }
        return part == 0 ? hits / a : seeds / a;
    }

    int image() {
        image = copyOf(this);
        return people.size();
    }

    int back() {
        if (image == null) return STATE;
        Oracle t = copyOf(image);
        mud = t.mud;
        people = t.people;
        owed = t.owed;
        hour = t.hour;
        rain = t.rain;
        rule = t.rule;
        return people.size();
    }

    int count(int what) {
        int pairs = 0;
        int yards = 0;
        for (int a = 0; a < 8; a++) for (int b = 0; b < a; b++) if (mud[a][b] != 0) pairs++;
        for (int[] row : owed) for (int v : row) yards += v;
        int[] v = {people.size(), pairs, hour, rainNow(), texts.size(), tape.length(), rule, yards};
        return what < 0 || what > 7 ? BAD : v[what];
    }

    int sheet(int sheet, int sort, int n) {
        if (!isSheet(sheet) || sort < -1 || sort > 2) return BAD;
        if (sort >= 0 && n > 40) return BAD;
        if (sort >= 0 && n < 0) return -14;
        sorts[sheet] = sort;
        sheets[sheet] = sort < 0 ? null : new int[n];
        return 1;
    }

    int cell(int sheet, int i, int v) {
        if (!isSheet(sheet)) return BAD;
        if (sheets[sheet] == null) return -11;
        if (i < 0 || i >= sheets[sheet].length) return -12;
        sheets[sheet][i] = sorts[sheet] == 0 ? (byte) v : sorts[sheet] == 1 ? (short) v : v;
        return 1;
    }

    int copy(int sheet, int i, int other, int j, int n) {
        if (!isSheet(sheet) || !isSheet(other)) return BAD;
        int[] a = sheets[sheet];
        int[] b = sheets[other];
        if (a == null || b == null) return -11;
        if (sorts[sheet] != sorts[other]) return -13;
        if (i < 0 || j < 0 || n < 0 || (long) i + n > a.length || (long) j + n > b.length) return -12;
        int[] was = a.clone();
        for (int k = 0; k < n; k++) b[j + k] = was[i + k];
        return n;
    }

    int muds(int sheet, int sort, int from, int n) {
        if (!isSheet(sheet) || sort < 0 || sort > 2 || n < 0 || n > 13) return BAD;
        int[] s = sheets[sheet];
        if (s != null && sorts[sheet] != sort) return -13;
        if (s == null) return -11;
        int became = 0;
        for (int k = 0; k < n; k++) {
            long at = (long) from + 3L * k;
            if (at < 0 || at + 2 >= s.length) return -12;
            if (mud(s[(int) at], s[(int) at + 1], s[(int) at + 2]) != BAD) became++;
        }
        return became;
    }

    int taken(int one, int k) {
        if (k < 0 || k > 5) return BAD;
        if (!isOne(one)) return -11;
        return KINDS[k].isInstance(people.get(one)) ? people.get(one).number : -13;
    }
}
