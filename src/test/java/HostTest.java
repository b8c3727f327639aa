/** Promises 27 to 31: sheet, cell, copy, muds, taken. */
public final class HostTest {
    public static void main(String[] args) {
        sheets();
        cells();
        copies();
        copyRefusals();
        mudsBySheet();
        mudsRefusals();
        takenFor();
        Check.end();
    }

    private static void sheets() {
        RolledUp x = new RolledUp();
        for (int sheet = 0; sheet < 4; sheet++) {
            for (int sort = 0; sort < 3; sort++) {
                Check.due("27: none", x.sheet(sheet, sort, 0), 1);
                Check.due("27: no item", x.cell(sheet, 0, 0), -12);
                Check.due("27: 40", x.sheet(sheet, sort, 40), 1);
                Check.due("27: the last item", x.cell(sheet, 39, 0), 1);
                Check.due("27: 41", x.sheet(sheet, sort, 41), -2);
                Check.due("27: -1", x.sheet(sheet, sort, -1), -14);
                Check.due("27: far below", x.sheet(sheet, sort, Integer.MIN_VALUE), -14);
                Check.due("27: far above", x.sheet(sheet, sort, Integer.MAX_VALUE), -2);
                Check.due("27: refused calls change nothing", x.cell(sheet, 39, 0), 1);
                Check.due("27: no item behind", x.cell(sheet, 40, 0), -12);
            }
            Check.due("27: missing, n does not matter", x.sheet(sheet, -1, 41), 1);
            Check.due("27: missing", x.cell(sheet, 0, 0), -11);
            Check.due("27: missing, n does not matter", x.sheet(sheet, -1, -5), 1);
            Check.due("27: sort", x.sheet(sheet, 3, 1), -2);
            Check.due("27: sort below", x.sheet(sheet, -2, 1), -2);
            Check.due("27: BAD is named ahead of -14", x.sheet(sheet, 3, -1), -2);
        }
        Check.due("27: no such sheet", x.sheet(4, 0, 1), -2);
        Check.due("27: no such sheet below", x.sheet(-1, 0, 1), -2);
        Check.due("27: no such sheet, missing", x.sheet(4, -1, 1), -2);
        Check.tell(x, 0, 0, 5, 5);
        x.sheet(0, 0, 2);
        Check.due("27: all 0 anew: stone 0 twice", x.prints(0), 0);
        x.one(0, 100, 0);
        x.mud(0, 5, 1);
        Check.tell(x, 0, 0, 5, 5, 5, 5);
        x.sheet(0, 0, 4);
        x.cell(0, 1, 5);
        x.cell(0, 3, 5);
        Check.due("27: all 0 anew: 0, 5, 0, 5", x.prints(0), 1);
    }

    private static void cells() {
        RolledUp x = new RolledUp();
        x.one(0, 100, 0);
        x.mud(0, 1, 1);
        Check.due("28: no such sheet", x.cell(4, 0, 0), -2);
        Check.due("28: no such sheet below", x.cell(-1, 0, 0), -2);
        Check.due("28: missing", x.cell(1, 0, 0), -11);
        Check.due("28: missing is named ahead of outside", x.cell(1, -1, 0), -11);
        x.sheet(1, 0, 2);
        Check.due("28: outside", x.cell(1, 2, 0), -12);
        Check.due("28: outside below", x.cell(1, -1, 0), -12);
        Check.due("28: byte", x.cell(1, 1, 0x12345601), 1);
        Check.due("28: its lowest 8 bits", x.prints(1), 1);
        x.cell(1, 1, 0x181);
        Check.due("28: -127", x.prints(1), -2);
        x.sheet(1, 1, 2);
        Check.due("28: short", x.cell(1, 1, 0x12340001), 1);
        Check.due("28: its lowest 16 bits", x.prints(1), 1);
        x.cell(1, 1, 0x101);
        Check.due("28: 257", x.prints(1), -2);
        x.sheet(1, 2, 2);
        Check.due("28: int", x.cell(1, 1, 0x10001), 1);
        Check.due("28: all its bits", x.prints(1), -2);
        x.cell(1, 1, 1);
        Check.due("28: 1", x.prints(1), 1);
    }

    /** What a sheet of mud tells, by muds() on a new object's like. */
    private static void copies() {
        RolledUp x = new RolledUp();
        Check.tell(x, 0, 1, 0, 1, 10, 2, 3, 20);
        Check.tell(x, 1, 1, 7, 7, 7, 7, 7, 7, 7, 7);
        Check.due("29: n", x.copy(0, 3, 1, 5, 3), 3);
        Check.due("29: they are there", x.muds(1, 1, 5, 1), 1);
        Check.due("29: 2 to 3", x.far(2, 3), 20);
        Check.due("29: the first is as it was", x.muds(0, 1, 0, 2), 2);
        Check.due("29: 0 to 1", x.far(0, 1), 10);
        Check.due("29: all of it", x.copy(0, 0, 1, 0, 6), 6);
        Check.due("29: none", x.copy(0, 0, 1, 0, 0), 0);
        Check.due("29: none, at the ends", x.copy(0, 6, 1, 8, 0), 0);
        Check.tell(x, 2, 2, 1, 2, 3, 4, 5, 6);
        Check.due("29: in one sheet, upwards, as they were", x.copy(2, 0, 2, 1, 5), 5);
        Check.due("29: 1 1 2 3 4 5", x.muds(2, 2, 1, 1), 1);
        Check.due("29: 1 to 2 became 3", x.far(1, 2), 3);
        Check.due("29: 1 1 2 3 4 5", x.muds(2, 2, 3, 1), 1);
        Check.due("29: 3 to 4 became 5", x.far(3, 4), 5);
        Check.tell(x, 2, 2, 1, 2, 3, 4, 5, 6);
        Check.due("29: in one sheet, downwards", x.copy(2, 2, 2, 0, 4), 4);
        Check.due("29: 3 4 5 6 5 6", x.muds(2, 2, 1, 1), 1);
        Check.due("29: 4 to 5 became 6", x.far(4, 5), 6);
        Check.due("29: 3 4 5 6 5 6", x.muds(2, 2, 3, 1), 1);
        Check.due("29: 6 to 5 became 6", x.far(6, 5), 6);
    }

    private static void copyRefusals() {
        RolledUp x = new RolledUp();
        Check.tell(x, 0, 1, 1, 2, 3);
        Check.tell(x, 1, 1, 4, 5, 6);
        Check.tell(x, 2, 2, 7);
        Check.due("29: no such sheet", x.copy(4, 0, 0, 0, 1), -2);
        Check.due("29: no such sheet below", x.copy(-1, 0, 0, 0, 1), -2);
        Check.due("29: no such other", x.copy(0, 0, 4, 0, 1), -2);
        Check.due("29: no such other below", x.copy(0, 0, -1, 0, 1), -2);
        Check.due("29: BAD ahead of -11", x.copy(3, 0, 4, 0, 1), -2);
        Check.due("29: missing", x.copy(3, 0, 0, 0, 1), -11);
        Check.due("29: missing other", x.copy(0, 0, 3, 0, 1), -11);
        Check.due("29: both missing", x.copy(3, 0, 3, 0, 0), -11);
        Check.due("29: unlike sorts", x.copy(0, 0, 2, 0, 1), -13);
        Check.due("29: -13 ahead of -12", x.copy(0, -1, 2, 0, -1), -13);
        Check.due("29: n below 0", x.copy(0, 0, 1, 0, -1), -12);
        Check.due("29: i below 0", x.copy(0, -1, 1, 0, 1), -12);
        Check.due("29: j below 0", x.copy(0, 0, 1, -1, 1), -12);
        Check.due("29: too many from i", x.copy(0, 1, 1, 0, 3), -12);
        Check.due("29: too many to j", x.copy(0, 0, 1, 1, 3), -12);
        Check.due("29: i behind", x.copy(0, 4, 1, 0, 0), -12);
        Check.due("29: j behind", x.copy(0, 0, 1, 4, 0), -12);
        Check.due("29: far off", x.copy(0, Integer.MAX_VALUE, 1, 0, Integer.MAX_VALUE), -12);
        Check.due("29: far off", x.copy(0, 0, 1, 0, Integer.MAX_VALUE), -12);
        Check.due("29: far below", x.copy(0, Integer.MIN_VALUE, 1, Integer.MIN_VALUE, Integer.MIN_VALUE), -12);
        Check.due("29: refused calls change nothing", x.muds(1, 1, 0, 1), 1);
        Check.due("29: 4 to 5", x.far(4, 5), 6);
    }

    private static void mudsBySheet() {
        RolledUp x = new RolledUp();
        Check.tell(x, 0, 0, 9, 0, 1, 10, 2, 2, 5, 3, 4, 100, 5, 6, 99, 0, 1, 0);
        Check.due("30: none", x.muds(0, 0, 1, 0), 0);
        Check.due("30: others are left out", x.muds(0, 0, 1, 4), 2);
        Check.due("30: the first", x.far(0, 1), 10);
        Check.due("30: the fourth", x.far(6, 5), 99);
        Check.due("30: not the third", x.far(3, 4), 0);
        Check.due("30: 0 is mud, too", x.muds(0, 0, 13, 1), 1);
        Check.due("30: no way", x.far(0, 1), 0);
        Check.due("30: as it is already", x.muds(0, 0, 10, 1), 1);
        Check.due("30: outside: what stood ahead became so", x.muds(0, 0, 1, 6), -12);
        Check.due("30: what stood ahead: then 0", x.far(0, 1), 0);
        Check.tell(x, 1, 2, 0, 2, 7, 0, 3, 8, 0, 4);
        Check.due("30: a part of three is outside", x.muds(1, 2, 0, 3), -12);
        Check.due("30: what stood ahead", x.far(0, 2), 7);
        Check.due("30: what stood ahead", x.far(0, 3), 8);
        Check.due("30: not the part", x.far(0, 4), 0);
        Check.due("30: from below", x.muds(1, 2, -1, 1), -12);
        Check.due("30: from behind", x.muds(1, 2, 8, 1), -12);
        Check.due("30: from far behind", x.muds(1, 2, Integer.MAX_VALUE, 13), -12);
        Check.due("30: from far below", x.muds(1, 2, Integer.MIN_VALUE, 13), -12);
        Check.due("30: none from outside", x.muds(1, 2, 50, 0), 0);
        Check.due("30: the longest", x.sheet(2, 2, 40), 1);
        Check.due("30: 13 of them, of alike stones", x.muds(2, 2, 1, 13), 0);
    }

    private static void mudsRefusals() {
        RolledUp x = new RolledUp();
        Check.tell(x, 0, 1, 0, 1, 10);
        Check.due("30: no such sheet", x.muds(4, 1, 0, 1), -2);
        Check.due("30: no such sheet below", x.muds(-1, 1, 0, 1), -2);
        Check.due("30: no such sort", x.muds(0, 3, 0, 1), -2);
        Check.due("30: no such sort below", x.muds(0, -1, 0, 1), -2);
        Check.due("30: n above", x.muds(0, 1, 0, 14), -2);
        Check.due("30: n below", x.muds(0, 1, 0, -1), -2);
        Check.due("30: BAD ahead of -11", x.muds(3, 1, 0, 14), -2);
        Check.due("30: another sort", x.muds(0, 0, 0, 1), -13);
        Check.due("30: another sort", x.muds(0, 2, 0, 0), -13);
        Check.due("30: -13 ahead of -12", x.muds(0, 2, -1, 1), -13);
        Check.due("30: missing", x.muds(3, 1, 0, 1), -11);
        Check.due("30: -11 ahead of -12", x.muds(3, 1, -1, 1), -11);
        Check.due("30: nothing became so", x.count(1), 0);
    }

    private static void takenFor() {
        boolean[][] under = {
            {true, false, false, false, false, false},
            {true, true, false, false, false, false},
            {true, false, true, false, false, false},
            {true, true, false, true, false, false},
            {true, false, true, false, true, false},
            {true, true, false, false, false, true}};
        for (int kind = 0; kind < 6; kind++) {
            RolledUp x = new RolledUp();
            x.one(kind, 203 + kind, 0);
            for (int k = 0; k < 6; k++) {
                Check.due("31: kind " + kind + " taken for " + k, x.taken(0, k), under[kind][k] ? 3 + kind : -13);
            }
            Check.due("31: k above", x.taken(0, 6), -2);
            Check.due("31: k below", x.taken(0, -1), -2);
            Check.due("31: no such one", x.taken(1, 0), -11);
            Check.due("31: no such one below", x.taken(-1, 0), -11);
            Check.due("31: BAD ahead of -11", x.taken(1, 6), -2);
            x.set(4, 0, 8);
            Check.due("31: NUMBER as it is now", x.taken(0, 0), 8);
        }
    }
}
