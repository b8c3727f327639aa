/** Promises 24 to 26: image, back, count. */
public final class ImageTest {
    public static void main(String[] args) {
        keepsAll();
        keptForMoreThanOnce();
        imageAnew();
        peopleThatCameSinceGo();
        whatIsNotKept();
        counts();
        Check.end();
    }

    private static int[] all(RolledUp x) {
        int[] v = new int[200];
        int n = 0;
        for (int a = 0; a < 8; a++) {
            for (int b = 0; b < a; b++) {
                v[n++] = x.far(a, b);
            }
        }
        for (int one = 0; one < 5; one++) {
            for (int what = 0; what < 9; what++) {
                v[n++] = x.told(one, what);
            }
            for (int other = 0; other < 5; other++) {
                v[n++] = x.owed(one, other);
            }
        }
        v[n++] = x.count(0);
        v[n++] = x.count(2);
        v[n++] = x.count(6);
        v[n++] = x.count(7);
        for (int hour = 0; hour < 24; hour++) {
            int was = x.set(5, 0, hour);
            v[n++] = x.count(3);
            x.set(5, 0, was);
        }
        return v;
    }

    private static void alike(String what, int[] got, int[] want) {
        for (int i = 0; i < want.length; i++) {
            Check.due(what + ", number " + i, got[i], want[i]);
        }
    }

    private static void change(RolledUp x) {
        x.mud(0, 1, 50);
        x.mud(6, 7, 0);
        x.mud(3, 4, 9);
        for (int one = 0; one < 2; one++) {
            x.set(0, one, 4);
            x.set(1, one, 44);
            x.set(2, one, 5);
            x.set(3, one, 6);
            x.set(4, one, 7);
        }
        x.lend(0, 1, 3);
        x.lend(1, 0, 9);
        x.set(5, 0, 77);
        x.set(6, 3, 8);
        x.set(6, 5, 0);
        x.force(0);
    }

    private static RolledUp scene() {
        RolledUp x = new RolledUp();
        x.one(1, 305, 2);
        x.one(4, 406, 3);
        x.mud(0, 1, 11);
        x.mud(6, 7, 12);
        x.set(2, 1, 2);
        x.lend(0, 1, 7);
        x.set(0, 1, 6);
        x.set(5, 0, 29);
        x.set(6, 5, 4);
        Check.due("8: text", Check.read(x, "wants 0; takes 5; lends 0;"), 1);
        x.force(1);
        return x;
    }

    private static void keepsAll() {
        RolledUp x = scene();
        Check.due("25: STATE", x.back(), -3);
        Check.due("24: how many people", x.image(), 2);
        alike("24: an image changes nothing", all(x), all(scene()));
        change(x);
        Check.due("25: how many people", x.back(), 2);
        alike("25: as in the image", all(x), all(scene()));
    }

    private static void keptForMoreThanOnce() {
        RolledUp changed = scene();
        change(changed);
        RolledUp x = scene();
        x.image();
        change(x);
        x.back();
        change(x);
        alike("25: changed alike", all(x), all(changed));
        Check.due("25: back once more", x.back(), 2);
        alike("25: as in the image, once more", all(x), all(scene()));
    }

    private static void imageAnew() {
        RolledUp changed = scene();
        change(changed);
        RolledUp x = scene();
        x.image();
        change(x);
        Check.due("24: an image anew", x.image(), 2);
        x.mud(0, 1, 1);
        x.set(5, 0, 1);
        Check.due("25: to the new one", x.back(), 2);
        alike("25: as in the new image", all(x), all(changed));
        Check.due("25: the rule goes with it: takes wet", x.can(0, 3, 1), 9 + 6 + 5);
    }

    private static void peopleThatCameSinceGo() {
        RolledUp x = scene();
        int[] before = all(x);
        x.image();
        x.set(0, 1, 0);
        Check.due("4: came since", x.one(3, 999, 9), 2);
        x.set(2, 2, 9);
        Check.due("14: owes", x.lend(0, 2, 0), -2);
        x.set(1, 2, 10);
        Check.due("14: text 1 lends for nothing", x.lend(0, 2, 5), 0);
        Check.due("14: text 1 lends for nothing", x.lend(2, 1, 5), 0);
        Check.due("25: who came since goes", x.back(), 2);
        Check.due("25: nobody there", x.told(2, 0), -2);
        Check.due("25: nothing owed there", x.owed(2, 0), -2);
        alike("25: as in the image", all(x), before);
        Check.due("4: another one", x.one(0, 120, 1), 2);
        int[] told = {0, 12, 0, 1, 0, 0, 12, 0, 0};
        for (int what = 0; what < 9; what++) {
            Check.due("4: a new one is as told", x.told(2, what), told[what]);
        }
        Check.due("15: a new one owes nothing", x.owed(2, 0), 0);
        Check.due("15: a new one is owed nothing", x.owed(1, 2), 0);
        RolledUp y = new RolledUp();
        Check.due("24: nobody", y.image(), 0);
        y.one(0, 0, 0);
        y.mud(0, 1, 1);
        Check.due("25: nobody", y.back(), 0);
        Check.due("25: nobody", y.count(0), 0);
        Check.due("25: no mud", y.count(1), 0);
    }

    private static void whatIsNotKept() {
        RolledUp x = scene();
        x.image();
        Check.tell(x, 2, 0, 1, 2);
        Check.due("8: text 2", Check.read(x, "wants 0; takes 0; lends 9;"), 2);
        x.feed(32);
        x.force(2);
        x.back();
        Check.due("25: texts stay", x.count(4), 3);
        Check.due("25: the tape stays", x.count(5), 1);
        Check.due("25: the rule goes back", x.count(6), 1);
        Check.due("25: sheets stay", x.cell(2, 1, 5), 1);
        Check.due("9: text 2 is there", x.force(2), 1);
    }

    private static void counts() {
        RolledUp x = scene();
        x.feed(65);
        x.feed(66);
        int[] counts = {2, 2, 29, 4, 2, 2, 1, 7};
        for (int what = 0; what < 8; what++) {
            Check.due("26: count(" + what + ")", x.count(what), counts[what]);
        }
        Check.due("26: BAD", x.count(8), -2);
        Check.due("26: BAD below", x.count(-1), -2);
        for (int a = 0; a < 8; a++) {
            for (int b = 0; b < a; b++) {
                x.mud(a, b, 1);
            }
        }
        Check.due("26: all pairs", x.count(1), 28);
    }
}
