/** The boundary cases that the document's Terms name, sentence by sentence; the sentence stands above each test. */
public final class EdgesOfTermsTest {
    private static final String REST = ";takes 0;lends 0;";

    public static void main(String[] args) {
        stones();
        mudIsTheSameBothWays();
        atFirst();
        mostOfEach();
        rainOfAnHour();
        quotients();
        reachesAtLeast();
        oiledAboveNumber();
        lastsAtLeast();
        soaksWithin();
        tapeOf160();
        longTokens();
        everyByte();
        textsThatEndTooEarly();
        sumsThatWrap();
        truth();
        fiveAreOpen();
        sixTexts();
        boundsOfTheRule();
        ruleOfTextZero();
        canAtTheEdge();
        hourAtMost();
        Check.end();
    }

    private static RolledUp withOne(int kind, int yards, int number, int load) {
        RolledUp x = new RolledUp();
        Check.due("one", x.one(kind, 10 * yards + number, load), 0);
        return x;
    }

    /** "1 STONES 0 .. 7." */
    private static void stones() {
        RolledUp x = withOne(0, 99, 0, 0);
        for (int a = 0; a < 8; a++) {
            for (int b = a + 1; b < 8; b++) {
                Check.due("each two of 8 STONES", x.mud(a, b, 10 * a + b + 1), 0);
            }
        }
        for (int a = 0; a < 8; a++) {
            for (int b = a + 1; b < 8; b++) {
                Check.due("MUD of its own", x.far(a, b), 10 * a + b + 1);
            }
        }
        for (int a = 0; a < 8; a++) {
            x.set(0, 0, a);
            Check.due("one can be on each", x.told(0, 0), a);
            for (int b = 0; b < 8; b++) {
                int mud = 10 * Math.min(a, b) + Math.max(a, b) + 1;
                Check.due("and go to each other one", x.can(0, b, 1), a == b ? -1 : mud);
            }
        }
        Check.due("no ninth STONE", x.mud(0, 8, 1), -2);
        Check.due("no STONE below", x.mud(-1, 0, 1), -2);
    }

    /** "MUD: .. (1 .. 99; 0: there is no way, as at first; the same both ways)." */
    private static void mudIsTheSameBothWays() {
        RolledUp x = withOne(0, 99, 0, 0);
        Check.due("no way at first", x.can(0, 1, 0), 0);
        Check.due("1, the least", x.mud(0, 1, 1), 0);
        Check.due("1, the other way", x.far(1, 0), 1);
        Check.due("1 can be gone", x.can(0, 1, 1), 1);
        Check.due("99, the most", x.mud(1, 0, 99), 1);
        Check.due("99, the other way", x.far(0, 1), 99);
        Check.due("99 can be gone", x.can(0, 1, 1), 99);
        Check.due("100 is too much", x.mud(0, 1, 100), -2);
        Check.due("-1 is too little", x.mud(0, 1, -1), -2);
        Check.due("99 still", x.far(0, 1), 99);
        Check.due("0: there is no way", x.mud(0, 1, 0), 99);
        Check.due("none can be gone", x.can(0, 1, 0), 0);
        Check.due("none, the other way", x.far(1, 0), 0);
    }

    /** "0 at first": the STONE, WET, OWED, HOUR, RAIN. */
    private static void atFirst() {
        RolledUp x = new RolledUp();
        Check.due("HOUR at first", x.count(2), 0);
        Check.due("RAIN now, at first", x.count(3), 0);
        for (int hour = 0; hour < 24; hour++) {
            Check.due("RAIN at first, hour " + hour, x.set(6, hour, 1), 0);
        }
        for (int one = 0; one < 5; one++) {
            Check.due("PEOPLE are numbered from 0", x.one(one, 999, 9), one);
            Check.due("the STONE at first", x.told(one, 0), 0);
            Check.due("WET at first", x.told(one, 2), 0);
            Check.due("owes nothing at first", x.told(one, 7), 0);
            Check.due("is owed nothing at first", x.told(one, 8), 0);
        }
        Check.due("THE RULE at first", x.count(6), 0);
        Check.due("TEXT 0 is with the TEXTS", x.count(4), 1);
        Check.due("THE TAPE at first", x.count(5), 0);
        Check.due("nothing is owed at first", x.count(7), 0);
    }

    /** NUMBER 0 .. 9, YARDS 0 .. 99, LOAD 0 .. 9, WET 0 .. 9, HOUR 0 .. 9999, RAIN 0 .. 9: both ends, by set(). */
    private static void mostOfEach() {
        RolledUp x = withOne(0, 50, 5, 5);
        int[] most = {7, 99, 9, 9, 9};
        for (int what = 0; what < 5; what++) {
            x.set(what, 0, most[what]);
            Check.due("the most is kept, " + what, x.set(what, 0, 0), most[what]);
            Check.due("the least is kept, " + what, x.set(what, 0, most[what]), 0);
            Check.due("one more is refused, " + what, x.set(what, 0, most[what] + 1), -2);
            Check.due("one less is refused, " + what, x.set(what, 0, -1), -2);
            Check.due("the most is still there, " + what, x.told(0, what), most[what]);
        }
        x.set(5, 0, 9999);
        Check.due("HOUR 9999", x.set(5, 0, 0), 9999);
        Check.due("HOUR 0", x.set(5, 0, 9999), 0);
        for (int hour = 0; hour < 24; hour++) {
            Check.due("RAIN 9", x.set(6, hour, 9), 0);
            Check.due("RAIN 0", x.set(6, hour, 0), 9);
        }
    }

    /** "RAIN of an HOUR is that of HOUR modulo 24." */
    private static void rainOfAnHour() {
        RolledUp x = new RolledUp();
        x.set(6, 0, 1);
        x.set(6, 23, 2);
        x.set(6, 15, 3);
        x.set(6, 14, 4);
        int[][] rows = {{0, 1}, {1, 0}, {22, 0}, {23, 2}, {24, 1}, {25, 0}, {47, 2}, {48, 1}, {9999, 3}, {9998, 4}, {9984, 1}, {9983, 2}};
        for (int[] row : rows) {
            x.set(5, 0, row[0]);
            Check.due("RAIN of hour " + row[0], x.count(3), row[1]);
        }
    }

    /** "Quotients are cut toward 0": halves of odd numbers. */
    private static void quotients() {
        for (int wet = 0; wet <= 9; wet++) {
            RolledUp x = withOne(2, 20, 0, 0);
            x.mud(0, 1, 1);
            x.set(2, 0, wet);
            Check.due("a TARRED's reach, WET " + wet, x.told(0, 6), 20 - (wet - wet % 2) / 2);
            x.go(0, 1);
            Check.due("a TARRED soaks, WET " + wet, x.told(0, 2), (wet - wet % 2) / 2);
        }
        Check.due("half of 20 and 1", withOne(3, 20, 1, 0).told(0, 6), 10);
        Check.due("half of 20 and 2", withOne(3, 20, 2, 0).told(0, 6), 11);
        Check.due("half of 1", withOne(3, 1, 0, 0).told(0, 6), 0);
        Check.due("half of 0 and 1", withOne(3, 0, 1, 0).told(0, 6), 0);
    }

    /** "(REACHES 0 at least .. in the end.)": kind, YARDS, NUMBER, WET, REACHES. */
    private static void reachesAtLeast() {
        int[][] rows = {{2, 5, 0, 9, 1}, {2, 4, 0, 9, 0}, {2, 3, 0, 9, 0}, {2, 0, 0, 9, 0}, {4, 5, 8, 9, 1}, {4, 3, 8, 9, 0}, {4, 0, 0, 1, 0},
            {4, 0, 0, 2, 0}, {5, 10, 0, 9, 1}, {5, 9, 0, 9, 0}, {5, 8, 0, 9, 0}, {5, 0, 9, 9, 0}, {5, 0, 8, 9, 0}, {5, 0, 9, 8, 1},
            {0, 0, 9, 9, 0}, {1, 0, 0, 9, 0}, {3, 0, 0, 9, 0}};
        for (int[] r : rows) {
            RolledUp x = withOne(r[0], r[1], r[2], 0);
            x.set(2, 0, r[3]);
            Check.due("REACHES of kind " + r[0] + ", YARDS " + r[1] + ", NUMBER " + r[2] + ", WET " + r[3], x.told(0, 6), r[4]);
        }
        RolledUp x = withOne(5, 0, 0, 0);
        x.one(0, 100, 0);
        x.set(2, 0, 9);
        x.mud(0, 1, 10);
        Check.due("who reaches 0 takes nothing from the other one's reach", x.together(0, 1, 1), 1);
    }

    /** "OILED: as a TARRED, if WET is above NUMBER, else as a RUG." */
    private static void oiledAboveNumber() {
        for (int number = 0; number <= 9; number++) {
            for (int wet = 0; wet <= 9; wet++) {
                RolledUp x = withOne(4, 20, number, 0);
                x.set(2, 0, wet);
                Check.due("OILED, NUMBER " + number + ", WET " + wet, x.told(0, 6), wet <= number ? 20 : 20 - wet / 2);
            }
        }
    }

    /** "(.. LASTS 1 at least .. in the end.)": kind, MUD, NUMBER, hours; it is dry, so takes is 0. */
    private static void lastsAtLeast() {
        int[][] rows = {{2, 11, 9, 2}, {2, 10, 9, 1}, {2, 9, 9, 1}, {2, 8, 9, 1}, {2, 1, 9, 1}, {2, 1, 0, 1}, {4, 11, 9, 2}, {4, 10, 9, 1}, {4, 9, 9, 1},
            {4, 1, 9, 1}, {0, 1, 9, 1}, {1, 1, 9, 1}, {3, 1, 9, 2}, {5, 1, 0, 1}, {5, 1, 9, 10}};
        for (int[] r : rows) {
            RolledUp x = withOne(r[0], 90, r[2], 0);
            x.mud(0, 1, r[1]);
            Check.due("LASTS of kind " + r[0] + ", MUD " + r[1] + ", NUMBER " + r[2], x.can(0, 1, 1), r[3]);
            Check.due("HOUR then", x.go(0, 1), r[3]);
        }
        RolledUp x = withOne(2, 90, 9, 0);
        x.mud(0, 1, 1);
        x.set(2, 0, 3);
        Check.due("1 that it LASTS, and 3: not 1 - 9 + 3", x.can(0, 1, 1), 4);
    }

    /** "(.. SOAKS 0 .. 9, in the end.)": all kinds, all WET, all RAIN. */
    private static void soaksWithin() {
        for (int kind = 0; kind < 6; kind++) {
            for (int wet = 0; wet <= 9; wet++) {
                for (int rain = 0; rain <= 9; rain++) {
                    RolledUp x = withOne(kind, 90, 9, 0);
                    x.mud(0, 1, 10);
                    x.set(2, 0, wet);
                    x.set(6, 0, rain);
                    x.go(0, 1);
                    int[] soaked = {wet + rain, wet + rain, (wet + rain) / 2, wet + rain + 1, wet, 2 * (wet + rain)};
                    Check.due("SOAKS of kind " + kind + ", WET " + wet + ", RAIN " + rain, x.told(0, 2), Math.min(9, soaked[kind]));
                }
            }
        }
    }

    /** "A TEXT is read from THE TAPE (160 bytes at most)." */
    private static void tapeOf160() {
        String text = "wants 0;takes 0;lends 3;";
        RolledUp x = new RolledUp();
        Check.due("a TEXT of 160 bytes", Check.read(x, " ".repeat(160 - text.length()) + text), 1);
        x.force(1);
        x.one(0, 500, 0);
        x.one(0, 0, 0);
        Check.due("its last byte but one tells", x.lend(0, 1, 1), 3);
        for (int i = 0; i < 160; i++) {
            x.feed(i < 24 ? text.charAt(i) : ' ');
        }
        Check.due("byte 161 does not come", x.feed(';'), -4);
        Check.due("it is as if it had not been", x.text(), 2);
        String first = "wants 0;takes 0;lends ";
        RolledUp y = new RolledUp();
        Check.due("160 bytes, and the ; would be the next", Check.read(y, first + " ".repeat(159 - first.length()) + "0"), -260);
        Check.due("THE TAPE is empty then", y.count(5), 0);
        Check.due("it takes a byte", y.feed(0), 1);
        Check.due("a fault in the last of 160 bytes", faultOf(first + "0;" + " ".repeat(159 - first.length() - 2) + "?"), -259);
    }

    private static int faultOf(String text) {
        return Check.read(new RolledUp(), text);
    }

    private static void fault(String text, int place) {
        Check.due("FAULT of '" + text + "'", faultOf(text), place < 0 ? 1 : -100 - place);
    }

    /** "TOKENS, each as long as can be: WORDS (a .. z), NUMBERS (digits, 4 at most)"; ".. a NUMBER that is too long". */
    private static void longTokens() {
        fault("wants 9999" + REST, -1);
        fault("wants 0000" + REST, -1);
        fault("wants 10000" + REST, 6);
        fault("wants 00000" + REST, 6);
        fault("wants 99999999999999999999" + REST, 6);
        fault("wants 9999 9" + REST, 11);
        fault("wants 9999+99999" + REST, 11);
        fault("wants 9999wet" + REST, 10);
        fault("wants wet9999" + REST, 9);
        fault("wants wetwet" + REST, 6);
        fault("wants towet" + REST, 6);
        fault("wants not1" + REST, -1);
        fault("wants notwet" + REST, 6);
        fault("wants 1or1and1" + REST, -1);
        fault("wants 1orwet" + REST, 7);
        fault("wantswet" + REST, 0);
        fault("wants0;takes0;lends0;", -1);
        fault("w" + "a".repeat(159), 0);
        fault("9".repeat(160), 0);
    }

    /** ".. SIGNS ( ) ; + - * < = ; blanks (32, 10) may stand between"; ".. also of a byte that begins none". */
    private static void everyByte() {
        for (int b = 0; b < 256; b++) {
            boolean blank = b == 32 || b == 10;
            boolean operator = b == '+' || b == '-' || b == '*' || b == '<' || b == '=';
            boolean digit = b >= '0' && b <= '9';
            fault("wants 1" + (char) b + "1" + REST, operator || digit ? -1 : blank || b == ';' ? 8 : 7);
            fault((char) b + "wants 1" + REST, blank ? -1 : 0);
            fault("wants 1" + REST + (char) b, blank ? -1 : ("wants 1" + REST).length());
            fault("wants " + (char) b + "1" + REST, blank || b == '-' || digit ? -1 : b == '(' ? 8 : 6);
            boolean letter = b >= 'a' && b <= 'z';
            fault("wants wet" + (char) b + "1" + REST, operator ? -1 : letter ? 6 : blank || b == ';' ? 10 : 9);
            fault("wants 1 " + (char) b, blank || operator || b == ';' ? 9 : 8);
        }
    }

    /** "(the text's size, if it ends too early)", but a WORD that is cut is none. */
    private static void textsThatEndTooEarly() {
        String text = "wants (0) ; takes - wet ; lends not 12 < rain ;";
        fault(text, -1);
        String letters = "abcdefghijklmnopqrstuvwxyz";
        for (int size = 0; size < text.length(); size++) {
            int start = size;
            while (start > 0 && letters.indexOf(text.charAt(start - 1)) >= 0) {
                start--;
            }
            boolean cut = start < size && letters.indexOf(text.charAt(size)) >= 0;
            fault(text.substring(0, size), cut ? start : size);
            if (!cut) {
                fault(text.substring(0, size) + " \n", size + 2);
            }
        }
        fault("", 0);
        fault(" ", 1);
        fault("\n\n", 2);
    }

    private static final String MOST = "(2147*1000*1000+483*1000+647)";

    /** What lends says, with WET 4, LOAD 3, RAIN 6, of one on STONE 5. */
    private static void value(String e, int due) {
        RolledUp x = new RolledUp();
        Check.due("a TEXT: " + e, Check.read(x, "wants 0;takes 0;lends " + e + ";"), 1);
        x.force(1);
        x.one(0, 500, 3);
        x.one(0, 0, 8);
        x.set(0, 0, 5);
        x.set(0, 1, 5);
        x.set(2, 0, 4);
        x.set(6, 0, 6);
        Check.due(e, x.lend(0, 1, 1), due);
    }

    /** "An E is an int (32 bits, wrapping)." */
    private static void sumsThatWrap() {
        value(MOST + "<0", 0);
        value(MOST + "+1<0", 1);
        value(MOST + "+1+" + MOST + "+1", 0);
        value(MOST + "+" + MOST + "+2=0", 1);
        value("-" + MOST + "-1<0", 1);
        value("-" + MOST + "-2<0", 0);
        value("-" + MOST + "-2=" + MOST, 1);
        value("-(-" + MOST + "-1)=-" + MOST + "-1", 1);
        value("-(-" + MOST + "-1)<0", 1);
        value("(-" + MOST + "-1)*-1<0", 1);
        value("(-" + MOST + "-1)*2", 0);
        value(MOST + "*2=-2", 1);
        value("8192*8192*64", 0);
        value("8192*8192*64+7", 7);
        value("8192*8192*32<0", 1);
        value("8192*8192*32-1<0", 0);
        value("(8192*8192*32<1)+(1<8192*8192*32)*2", 1);
        value("-" + MOST + "-1<" + MOST, 1);
        value(MOST + "<-" + MOST + "-1", 0);
    }

    /** ".. of or, and, not, <, = 1 or 0 (what is not 0 is true)." */
    private static void truth() {
        String[] trues = {"1", "2", "-1", "256", "-256", "9999", "8192*8192*32", "8192*8", "(1 or 0)"};
        for (String e : trues) {
            value("(" + e + " or 0)*7", 7);
            value("(0 or " + e + ")*7", 7);
            value("(" + e + " and 1)*7", 7);
            value("(1 and " + e + ")*7", 7);
            value("(" + e + " and 0)*7", 0);
            value("(0 and " + e + ")*7", 0);
            value("(not(" + e + "))*7", 0);
            value("(not not(" + e + "))*7", 7);
        }
        String[] falses = {"0", "-0", "1-1", "8192*8192*64", "(not 1)", "(1<1)", "(0=1)"};
        for (String e : falses) {
            value("(" + e + " or 0)*7", 0);
            value("(0 or " + e + ")*7", 0);
            value("(1 and " + e + ")*7", 0);
            value("(not(" + e + "))*7", 7);
        }
        value("(1<2)*7", 7);
        value("(2<2)*7", 0);
        value("(2=2)*7", 7);
        value("(2=1)*7", 0);
    }

    /** ".. a ( , a not, a - ahead of a ONE while 5 of these are open": all rows of three kinds, five long and six. */
    private static void fiveAreOpen() {
        for (int row = 0; row < 729; row++) {
            StringBuilder six = new StringBuilder("wants ");
            StringBuilder close = new StringBuilder();
            int rest = row;
            int last = 0;
            boolean notCan = true;
            boolean allCan = true;
            int[] starts = new int[6];
            for (int k = 0; k < 6; k++) {
                int kind = rest % 3;
                rest /= 3;
                starts[k] = six.length();
                allCan &= kind != 1 || notCan;
                six.append(kind == 0 ? "(" : kind == 1 ? "not " : "-");
                notCan = kind != 2 && (kind == 0 || notCan);
                if (kind == 0 && k < 5) {
                    close.append(')');
                }
                last = kind;
            }
            if (!allCan) {
                continue;
            }
            String five = six.substring(0, starts[5]);
            fault(five + "1" + close + REST, -1);
            fault(six + "1" + close + (last == 0 ? ")" : "") + REST, starts[5]);
            fault(six.toString(), starts[5]);
        }
        fault("wants (((((1)))))+(((((1)))))" + REST, -1);
        fault("wants -----1+-----1" + REST, -1);
        fault("wants not not not not not 1 or -----1" + REST, -1);
        fault("wants not not not not not 1+-1" + REST, 28);
        fault("wants ((((-1)-(1))))" + REST, -1);
        fault("wants ((((-(1)))))" + REST, 11);
        fault("wants ((((1-(1)))))" + REST, -1);
        fault("wants (((((1-1)))))" + REST, -1);
        fault("wants (((((1--1)))))" + REST, 13);
        fault("wants ((((not 1 and (1)))))" + REST, -1);
        fault("wants ((((not 1 + (1)))))" + REST, 18);
    }

    /** "There are 6 TEXTS at most, TEXT 0 with them." */
    private static void sixTexts() {
        RolledUp x = new RolledUp();
        for (int n = 1; n <= 5; n++) {
            Check.due("TEXTS", x.count(4), n);
            Check.due("TEXT " + n, Check.read(x, "wants 0;takes 0;lends " + 11 * n + ";"), n);
        }
        Check.due("6 TEXTS", x.count(4), 6);
        Check.due("no seventh", Check.read(x, "wants 0;takes 0;lends 66;"), -4);
        Check.due("6 TEXTS still", x.count(4), 6);
        Check.due("THE TAPE stays", x.count(5), 25);
        x.one(0, 990, 0);
        x.one(0, 0, 0);
        for (int n = 5; n >= 0; n--) {
            Check.due("force " + n, x.force(n), n == 5 ? 0 : n + 1);
            Check.due("lends of TEXT " + n, x.lend(0, 1, 1), n == 0 ? 1 : 11 * n);
        }
    }

    private static int bounded(long v) {
        return (int) Math.max(0, Math.min(99, v));
    }

    /** "wants: .. (0 .. 99, else the bound)", and so takes, and lends. */
    private static void boundsOfTheRule() {
        String[] es = {"-9999", "-2", "-1", "0", "1", "98", "99", "100", "101", "199", "256", "9999", "-256", MOST, "-" + MOST + "-1", MOST + "+1"};
        long[] vs = {-9999, -2, -1, 0, 1, 98, 99, 100, 101, 199, 256, 9999, -256, Integer.MAX_VALUE, Integer.MIN_VALUE, Integer.MIN_VALUE};
        for (int i = 0; i < es.length; i++) {
            int due = bounded(vs[i]);
            value(es[i], due);
            RolledUp x = new RolledUp();
            Check.due("a TEXT", Check.read(x, "wants " + es[i] + REST), 1);
            Check.due("a TEXT", Check.read(x, "wants 0;takes " + es[i] + ";lends 0;"), 2);
            x.one(1, 999, 0);
            x.mud(0, 1, 9);
            x.force(1);
            x.set(1, 0, due);
            Check.due("wants " + es[i] + ": it must reach so many more than 9", x.can(0, 1, 0), 1);
            if (due > 0) {
                x.set(1, 0, due - 1);
                Check.due("wants " + es[i] + ": a yard less", x.can(0, 1, 0), 0);
            }
            x.set(1, 0, 99);
            x.force(2);
            Check.due("takes " + es[i], x.can(0, 1, 1), 9 + due);
        }
    }

    /** "TEXT 0, at first THE RULE, is: wants 0 ; takes wet ; lends 1 + rain ;" */
    private static void ruleOfTextZero() {
        RolledUp x = withOne(0, 20, 0, 7);
        x.one(0, 0, 0);
        x.mud(0, 1, 20);
        for (int v = 0; v <= 9; v++) {
            x.set(2, 0, v);
            x.set(6, 0, 9 - v);
            Check.due("wants 0", x.can(0, 1, 0), 1);
            Check.due("takes wet", x.can(0, 1, 1), 20 + v);
            x.set(1, 0, 21);
            Check.due("lends 1 + rain", x.lend(0, 1, 1), 10 - v);
        }
    }

    /** "One CAN go .., if there is MUD, and the RUG REACHES MUD and wants, together." */
    private static void canAtTheEdge() {
        RolledUp x = withOne(0, 30, 0, 4);
        Check.due("a TEXT", Check.read(x, "wants load;takes 0;lends 0;"), 1);
        x.force(1);
        Check.due("no MUD", x.can(0, 1, 0), 0);
        x.mud(0, 1, 26);
        Check.due("26 and 4 of 30", x.can(0, 1, 0), 1);
        x.mud(0, 1, 27);
        Check.due("27 and 4 of 30", x.can(0, 1, 0), 0);
        x.set(3, 0, 3);
        Check.due("27 and 3 of 30", x.can(0, 1, 0), 1);
        x.set(1, 0, 29);
        Check.due("27 and 3 of 29", x.can(0, 1, 0), 0);
        x.mud(0, 1, 1);
        x.set(3, 0, 0);
        x.set(1, 0, 1);
        Check.due("1 of 1", x.can(0, 1, 0), 1);
        x.set(1, 0, 0);
        Check.due("1 of 0", x.can(0, 1, 0), 0);
    }

    /** "HOUR is so much more (9999 at most)", also in thought. */
    private static void hourAtMost() {
        int[][] rows = {{9988, 9998}, {9989, 9999}, {9990, 9999}, {9999, 9999}};
        for (int[] row : rows) {
            RolledUp x = withOne(0, 10, 0, 0);
            x.mud(0, 1, 10);
            x.set(5, 0, row[0]);
            Check.due("10 hours from " + row[0], x.go(0, 1), row[1]);
            Check.due("HOUR", x.count(2), row[1]);
        }
        RolledUp x = withOne(5, 20, 0, 0);
        x.mud(0, 1, 16);
        Check.tell(x, 0, 0, 0, 1, 0, 0, 0, 1);
        x.set(5, 0, 9990);
        x.set(6, 15, 3);
        Check.due("in thought HOUR is 9999 behind the first way: RAIN of 15, WET 6", x.judge(0), 2);
        x.set(6, 15, 2);
        Check.due("in thought, WET 4", x.judge(0), -1);
        Check.due("HOUR is as it was", x.count(2), 9990);
    }
}
