/** Promises 7 to 9: feed, text, force; what texts mean. */
public final class TextsTest {
    public static void main(String[] args) {
        tape();
        numbersOfTexts();
        fullTexts();
        faults();
        openOnes();
        values();
        names();
        bounds();
        Check.end();
    }

    private static void tape() {
        RolledUp x = new RolledUp();
        Check.due("7: below", x.feed(-1), -2);
        Check.due("7: above", x.feed(256), -2);
        Check.due("7: least", x.feed(0), 1);
        Check.due("7: most", x.feed(255), 2);
        for (int i = 3; i <= 160; i++) {
            Check.due("7: feed", x.feed(32), i);
        }
        Check.due("7: FULL", x.feed(32), -4);
        Check.due("7: BAD ahead of FULL", x.feed(256), -2);
        Check.due("7: 160 bytes", x.count(5), 160);
        Check.due("8: a byte that begins no token", x.text(), -100);
        Check.due("8: the tape is empty then", x.count(5), 0);
        Check.due("8: an empty tape ends too early", x.text(), -100);
        String long160 = "wants " + "1+".repeat(60) + "1;takes 0;lends 0;";
        long160 = long160.substring(0, 6) + " ".repeat(160 - long160.length()) + long160.substring(6);
        Check.due("8: all of the tape is read", Check.read(x, long160), 1);
        Check.due("8: the tape is empty then", x.count(5), 0);
    }

    private static void numbersOfTexts() {
        RolledUp x = new RolledUp();
        Check.due("8: text 1", Check.read(x, "wants 0;takes 0;lends 7;"), 1);
        Check.due("8: a fault takes no number", Check.read(x, "wants"), -105);
        Check.due("8: text 2", Check.read(x, "wants 0;takes 0;lends 8;"), 2);
        Check.due("8: three texts", x.count(4), 3);
        Check.due("8: a text is not the rule yet", x.count(6), 0);
        x.one(0, 500, 0);
        x.one(0, 500, 0);
        Check.due("9: text 0: lends 1 + rain", x.lend(0, 1, 2), 2);
        Check.due("9: force", x.force(2), 0);
        Check.due("9: lends 8", x.lend(0, 1, 2), 16);
        Check.due("9: which was", x.force(1), 2);
        Check.due("9: lends 7", x.lend(0, 1, 2), 14);
        Check.due("9: BAD, above", x.force(3), -2);
        Check.due("9: BAD, below", x.force(-1), -2);
        Check.due("9: refused calls change nothing", x.count(6), 1);
        Check.due("9: text 0 again", x.force(0), 1);
        Check.due("9: lends 1 + rain", x.lend(0, 1, 2), 2);
    }

    private static void fullTexts() {
        RolledUp x = new RolledUp();
        for (int i = 1; i < 6; i++) {
            Check.due("8: text", Check.read(x, "wants 0;takes 0;lends " + i + ";"), i);
        }
        Check.due("8: FULL", Check.read(x, "wants 0;takes 0;lends 6;"), -4);
        Check.due("8: FULL: the tape stays", x.count(5), 24);
        Check.due("8: six texts", x.count(4), 6);
        Check.due("9: the last one", x.force(5), 0);
        Check.due("9: no text more", x.force(6), -2);
    }

    private static void fault(String text, int place) {
        RolledUp x = new RolledUp();
        Check.due("8: fault of '" + text + "'", Check.read(x, text), place < 0 ? 1 : -100 - place);
        Check.due("8: texts behind '" + text + "'", x.count(4), place < 0 ? 2 : 1);
        Check.due("8: tape behind '" + text + "'", x.count(5), 0);
    }

    private static void faults() {
        fault("wants 0 ; takes wet ; lends 1 + rain ;", -1);
        fault("wants 0;takes wet;lends 1+rain;", -1);
        fault(" \n wants\n0\n;\ntakes\nwet ; lends 1 + rain ; \n", -1);
        fault("wants0;takes0;lends0;", -1);
        fault("", 0);
        fault("   ", 3);
        fault("takes 0;", 0);
        fault("want 0;", 0);
        fault("wantss 0;", 0);
        fault("wants", 5);
        fault("wants  ", 7);
        fault("wants 0", 7);
        fault("wants 0;", 8);
        fault("wants 0; wants 0;", 9);
        fault("wants 0;takes 0;lends 0", 23);
        fault("wants 0;takes 0;lends 0;;", 24);
        fault("wants 0;takes 0;lends 0; 5", 25);
        fault("wants 0;takes 0;lends 0; wants 0;", 25);
        fault("wants 0;takes 0;lends 0; ?", 25);
        fault("wants ;", 6);
        fault("wants 0 0;", 8);
        fault("wants 0 wet;", 8);
        fault("wants 3wet;", 7);
        fault("wants wet3;", 9);
        fault("wants 12345;", 6);
        fault("wants 00001;", 6);
        fault("wants 0000;takes 9999;lends 0;", -1);
        fault("wants 1 + 12345 + x;", 10);
        fault("wants foo;", 6);
        fault("wants Wet;", 6);
        fault("wants wetrain;", 6);
        fault("wants we;", 6);
        fault("wants 1 orr 2;", 8);
        fault("wants 1\t+ 2;", 7);
        fault("wants 1\r;", 7);
        fault("wants 1 / 2;", 8);
        fault("wants 1 > 2;", 8);
        fault("wants 1 < 2 < 3;", 12);
        fault("wants 1 = 2 = 3;", 12);
        fault("wants 1 = 2 < 3;", 12);
        fault("wants (1 < 2) < 3;takes (1)=(2);lends 0;", -1);
        fault("wants 1 + ;", 10);
        fault("wants 1 * * 2;", 10);
        fault("wants + 1;", 6);
        fault("wants * 1;", 6);
        fault("wants 1 or;", 10);
        fault("wants or 1;", 6);
        fault("wants 1 and or 2;", 12);
        fault("wants not;", 9);
        fault("wants 1 + not 2;", 10);
        fault("wants 1 < not 2;", 10);
        fault("wants - not 2;", 8);
        fault("wants 1 not 2;", 8);
        fault("wants 1 and not 2;takes not not wet = 1;lends not - 1;", -1);
        fault("wants (1;", 8);
        fault("wants (1", 8);
        fault("wants ();", 7);
        fault("wants 1);", 7);
        fault("wants (1));", 9);
        fault("wants (1 or 2 and (not 3));takes -(1)*-2;lends 1--1;", -1);
        fault("wants wants;", 6);
        fault("wants to;takes takes;", 15);
        fault("wants 1 (2);", 8);
        fault("wants 1" + (char) 200 + ";", 7);
        fault("wants 1" + (char) 0 + ";", 7);
        fault("wants 1 ?", 8);
        fault("wants 1 < ;", 10);
        fault("wants 1 = ;", 10);
        fault("wants 1 * ;", 10);
        fault("wants 1 - ;", 10);
        fault("wants 1 and ;", 12);
        fault("wants - ;", 8);
        fault("wants not ;", 10);
        fault("wants (1 + );", 11);
        fault("wants (1 < );", 11);
        fault("wants (1 * );", 11);
        fault("wants - foo;", 8);
        fault("wants (foo);", 7);
        fault("wants not foo;", 10);
        fault("wants wetz;", 6);
        fault("wants zwet;", 6);
        fault("wants 0;takes 0;lends 0;" + (char) 0, 24);
        fault("wants 0;takes 0;lends 0;" + (char) 2, 24);
        fault("wants " + (char) 2 + ";", 6);
        RolledUp x = new RolledUp();
        Check.due("8: fault", Check.read(x, "xxxxxxxxxxxxxxxxxxxxx"), -100);
        Check.due("8: nothing is left of a tape", Check.read(x, "wants"), -105);
        Check.due("8: fault", Check.read(x, "777777777777777777777"), -100);
        Check.due("8: nothing is left of a tape", Check.read(x, "wants 1234"), -110);
    }

    private static void openOnes() {
        String rest = ";takes 0;lends 0;";
        fault("wants (((((1)))))" + rest, -1);
        fault("wants ((((((1))))))" + rest, 11);
        fault("wants -----1" + rest, -1);
        fault("wants ------1" + rest, 11);
        fault("wants not not not not not 1" + rest, -1);
        fault("wants not not not not not not 1" + rest, 26);
        fault("wants not (-(-1))" + rest, -1);
        fault("wants not (-(-(1)))" + rest, 14);
        fault("wants not (-(not 1 < 1))" + rest, -1);
        fault("wants not (-(not 1 < -1))" + rest, 21);
        fault("wants not ((not 1 < -1))" + rest, -1);
        fault("wants ((((-1+-1))))" + rest, -1);
        fault("wants (((((1)+(1)*(1)))))" + rest, -1);
        fault("wants (((((1)+(1)*((1))))))" + rest, 19);
        fault("wants ((((((", 11);
        fault("wants (((((1))))) + (((((1))))) - -----1" + rest, -1);
        fault("wants not not not not not 1 and -----1" + rest, -1);
        fault("wants not not not not not 1 = -1" + rest, 30);
        fault("wants -----1 * -----1 - -----1" + rest, -1);
        fault("wants 0;takes (((((0)))));lends (((((0)))))-1;", -1);
    }

    /** What an E answers by a text's lends, 0 .. 99. */
    private static void value(String e, int want) {
        RolledUp x = new RolledUp();
        Check.due("8: text of " + e, Check.read(x, "wants 0;takes 0;lends " + e + ";"), 1);
        x.force(1);
        x.one(0, 507, 3);
        x.one(0, 507, 8);
        x.set(0, 0, 5);
        x.set(0, 1, 5);
        x.set(2, 0, 4);
        x.set(6, 0, 6);
        Check.due("8: value of " + e, x.lend(0, 1, 1), want);
    }

    private static void values() {
        value("1 + 2 * 3", 7);
        value("(1 + 2) * 3", 9);
        value("10 - 3 - 2", 5);
        value("10 - (3 - 2)", 9);
        value("2 * 3 * 4", 24);
        value("-3 + 10", 7);
        value("10 + -3", 7);
        value("--5", 5);
        value("10 - -3", 13);
        value("-2 * -3", 6);
        value("5 or 0", 1);
        value("0 or 0", 0);
        value("0 or 0 or 7", 1);
        value("5 and 6", 1);
        value("5 and 0", 0);
        value("2 and 4", 1);
        value("1 or 0 and 0", 1);
        value("(1 or 0) and 0", 0);
        value("not 0", 1);
        value("not 7", 0);
        value("not not 7", 1);
        value("not 0 and 0", 0);
        value("not 1 = 2", 1);
        value("(not 1) = 2", 0);
        value("not 1 < 2", 0);
        value("1 < 2", 1);
        value("2 < 2", 0);
        value("3 < 2", 0);
        value("-1 < 0", 1);
        value("2 = 2", 1);
        value("2 = 3", 0);
        value("1 + 1 = 2", 1);
        value("3 < 1 + 3", 1);
        value("7", 7);
        value("(7)", 7);
        value("0007", 7);
        value("(1 < 2) * 50 + (2 < 1) * 20", 50);
        // 9999 * 9999 * 43 is 4299140043, 4172747 more than 32 bits hold.
        value("9999 * 9999 * 43 = 4172 * 1000 + 747", 1);
        // 9999 * 9999 * 9999 wraps to -1027349969.
        value("9999 * 9999 * 9999 < 0", 1);
        // -2168253153 wraps to 2126714143.
        value("0 - 2147 * 9999 * 100 - 2147 * 9999 < 0", 0);
        value("1 - 2 < 0 and 3 = 3 or 0", 1);
        // As many numbers as can wait for their operators: the innermost E is 0 or 1 and 0 < 3 + 2 * 2.
        String deep = "0 or 1 and 0<3+2*(";
        value(deep.repeat(5) + "0 or 1 and 0<3+2*2)))))", 1);
        String deepest = "0 or 1 and 5=3+2*(";
        value(deepest.repeat(5) + "0 or 1 and 7=3+2*2)))))", 1);
        value(deepest.repeat(5) + "0 or 1 and 6=3+2*2)))))", 0);
    }

    private static void names() {
        value("wet", 4);
        value("load", 3);
        value("rain", 6);
        value("from", 5);
        value("to", 5);
        value("mud + 1", 1);
        value("wet * load + rain", 18);
        RolledUp x = new RolledUp();
        Check.due("8: names of a way", Check.read(x, "wants from * 10 + to; takes mud + wet * 2 + load + rain;lends 0;"), 1);
        x.force(1);
        x.one(0, 990, 7);
        x.mud(2, 6, 20);
        x.set(0, 0, 2);
        x.set(2, 0, 3);
        x.set(6, 4, 5);
        x.set(5, 0, 28);
        Check.due("10: 20, and 20 + 6 + 7 + 5", x.can(0, 6, 1), 58);
        x.set(1, 0, 46);
        Check.due("10: 20 + 26 are wanted", x.can(0, 6, 0), 1);
        x.set(1, 0, 45);
        Check.due("10: 20 + 26 are wanted, not reached", x.can(0, 6, 0), 0);
        x.set(0, 0, 6);
        x.set(1, 0, 82);
        Check.due("10: 20 + 62 are wanted", x.can(0, 2, 0), 1);
        x.set(1, 0, 81);
        Check.due("10: 20 + 62 are wanted, not reached", x.can(0, 2, 0), 0);
    }

    private static void bounds() {
        value("99", 99);
        value("100", 99);
        value("9999", 99);
        value("0", 0);
        value("-1", 0);
        RolledUp x = new RolledUp();
        Check.due("8: text", Check.read(x, "wants -5; takes -7; lends 0;"), 1);
        Check.due("8: text", Check.read(x, "wants 0; takes 100; lends 0;"), 2);
        Check.due("8: text", Check.read(x, "wants 1000; takes 0; lends 0;"), 3);
        x.one(1, 109, 0);
        x.mud(0, 1, 20);
        x.force(1);
        Check.due("10: wants is 0 at least", x.can(0, 1, 0), 0);
        x.set(1, 0, 11);
        Check.due("10: wants is 0 at least", x.can(0, 1, 0), 1);
        Check.due("10: takes is 0 at least", x.can(0, 1, 1), 20);
        x.force(2);
        Check.due("10: takes is 99 at most", x.can(0, 1, 1), 119);
        x.force(3);
        x.mud(0, 1, 9);
        x.set(1, 0, 98);
        Check.due("10: wants is 99 at most", x.can(0, 1, 0), 0);
        x.set(1, 0, 99);
        Check.due("10: wants is 99 at most", x.can(0, 1, 0), 1);
    }
}
