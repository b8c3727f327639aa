/** The boundary cases of promises 1 to 31 that are taken: least, most, empty, full; RefusalsTest has the others. */
public final class EdgesOfCallsTest {
    public static void main(String[] args) {
        newObject();
        mudFromLeastToMost();
        whatOfOne();
        eachOfFive();
        eachTwoOfFive();
        owedByAllOthers();
        tapeFromEmptyToFull();
        faultsTakeNoRoom();
        hoursAtMost();
        longestRows();
        lendingAtMost();
        ringsOfAll();
        togetherFromEachStone();
        shakenFromOneToEight();
        shakenFromEachStone();
        printsOfFortyStones();
        outInTheLastHour();
        eachPairIsTheRoad();
        judgedTwentyRows();
        drawnNothing();
        drawnByAnInt();
        chanceInLowestTerms();
        imagesOfNobodyAndOfFive();
        countsAtMost();
        sheetsFromNoneToForty();
        bitsOfCells();
        copiesAtTheEnds();
        thirteenMuds();
        mudsLeftOut();
        takenForEach();
        Check.end();
    }

    private static RolledUp with(int people) {
        RolledUp x = new RolledUp();
        for (int one = 0; one < people; one++) {
            Check.due("one", x.one(0, 990, 0), one);
        }
        return x;
    }

    /** Who owes whom how many yards, lent for what TEXT 0 costs without rain; YARDS are not as before. */
    private static void owe(RolledUp x, int who, int whom, int yards) {
        x.set(1, whom, 99);
        x.set(1, who, 0);
        Check.due("14: lending", x.lend(whom, who, yards), yards);
    }

    /** 1: "No MUD that can be gone over, nobody." */
    private static void newObject() {
        RolledUp x = new RolledUp();
        Check.due("1: nobody", x.count(0), 0);
        Check.due("1: no MUD", x.count(1), 0);
        Check.due("1: nobody is 0", x.told(0, 0), -2);
        Check.due("1: nobody goes", x.go(0, 1), -2);
        Check.due("1: nobody is owed", x.rings(), 0);
        Check.due("1: nobody comes", x.road(0, 1), 0);
        x.one(0, 990, 0);
        for (int stone = 0; stone < 8; stone++) {
            x.set(0, 0, stone);
            for (int to = 0; to < 8; to++) {
                Check.due("1: no MUD can be gone over", x.can(0, to, 0), 0);
            }
        }
    }

    /** 2, 3: "becomes v (0 .. 99): what it was." */
    private static void mudFromLeastToMost() {
        RolledUp x = new RolledUp();
        for (int v = 1; v <= 99; v++) {
            Check.due("2: what it was", x.mud(v % 2 == 0 ? 7 : 0, v % 2 == 0 ? 0 : 7, v), v - 1);
            Check.due("3: MUD", x.far(7, 0), v);
        }
        Check.due("2: 0 again", x.mud(0, 7, 0), 99);
        Check.due("3: 0", x.far(0, 7), 0);
    }

    /** 4: "(what: 10 times YARDS, and NUMBER)". */
    private static void whatOfOne() {
        int[][] rows = {{0, 0, 0}, {9, 0, 9}, {10, 1, 0}, {99, 9, 9}, {100, 10, 0}, {989, 98, 9}, {990, 99, 0}, {999, 99, 9}};
        for (int[] row : rows) {
            for (int kind = 0; kind < 6; kind++) {
                RolledUp x = new RolledUp();
                Check.due("4: the number", x.one(kind, row[0], kind + 4), 0);
                Check.due("4: YARDS of " + row[0], x.told(0, 1), row[1]);
                Check.due("4: NUMBER of " + row[0], x.told(0, 4), row[2]);
                Check.due("4: LOAD", x.told(0, 3), kind + 4);
                Check.due("4: KIND", x.told(0, 5), kind);
            }
        }
    }

    /** Each of five is on a STONE of its own, from which it can just go to STONE 0: 10 yards and its number. */
    private static RolledUp fiveApart() {
        RolledUp x = new RolledUp();
        for (int one = 0; one < 5; one++) {
            Check.due("4: " + one, x.one(0, 100 + 10 * one + one, one), one);
            x.set(0, one, 7 - one);
            x.mud(7 - one, 0, 10 + one);
        }
        return x;
    }

    /** 5, 6, 10, 11, 12, 19, 31: "one" is the one that is told, from the first to the last. */
    private static void eachOfFive() {
        for (int one = 0; one < 5; one++) {
            RolledUp x = fiveApart();
            Check.due("6: STONE", x.told(one, 0), 7 - one);
            Check.due("6: YARDS", x.told(one, 1), 10 + one);
            Check.due("6: REACHES", x.told(one, 6), 10 + one);
            Check.due("31: NUMBER", x.taken(one, 0), one);
            Check.due("10: just so", x.can(one, 0, 1), 10 + one);
            Check.due("12: hours", x.soonest(one, 0, 0), 10 + one);
            Check.due("12: the first STONE", x.soonest(one, 0, 1), 0);
            Check.due("19: at once", x.out(one, 0, 0), 0);
            Check.due("19: hours", x.out(one, 0, 1), 10 + one);
            Check.due("5: a yard less", x.set(1, one, 9 + one), 10 + one);
            Check.due("10: too far", x.can(one, 0, 0), 0);
            Check.due("12: too far", x.soonest(one, 0, 0), -1);
            Check.due("19: too far", x.out(one, 0, 0), -1);
            Check.due("11: too far", x.go(one, 0), -3);
            x.set(1, one, 10 + one);
            Check.due("11: HOUR then", x.go(one, 0), 10 + one);
            for (int other = 0; other < 5; other++) {
                Check.due("11: that one has gone", x.told(other, 0), other == one ? 0 : 7 - other);
            }
        }
    }

    /** 13, 14, 17: each two of five, on a STONE that is not that of the others. */
    private static void eachTwoOfFive() {
        for (int one = 0; one < 5; one++) {
            for (int other = 0; other < 5; other++) {
                if (one == other) {
                    continue;
                }
                RolledUp x = fiveApart();
                Check.due("13: apart", x.together(one, other, 0), -3);
                Check.due("17: apart", x.shaken(one, other), -3);
                Check.due("14: apart", x.lend(one, other, 1), -3);
                x.set(0, one, 2);
                x.set(0, other, 2);
                x.mud(2, 1, 20 + one + other);
                Check.due("13: both reach so far", x.together(one, other, 1), 1);
                Check.due("17: neither can", x.shaken(one, other), -1);
                x.mud(2, 1, 21 + one + other);
                Check.due("13: a yard too far", x.together(one, other, 1), -1);
                x.mud(2, 1, 10 + one);
                Check.due("17: the one can", x.shaken(one, other), other < one ? 1 : -1);
                Check.due("14: a yard", x.lend(one, other, 1), 1);
                Check.due("14: a yard less", x.told(one, 1), 9 + one);
                Check.due("14: a yard more", x.told(other, 1), 11 + other);
                Check.due("15: a yard owed", x.owed(other, one), 1);
                Check.due("26: no yard more", x.count(7), 1);
            }
        }
    }

    /** 6: "how many yards it owes all others", "how many it is owed by all": 99 for each of four. */
    private static void owedByAllOthers() {
        RolledUp x = with(5);
        for (int other = 0; other < 4; other++) {
            owe(x, 4, other, 99);
            Check.due("6: owes", x.told(4, 7), 99 * (other + 1));
            Check.due("6: is owed", x.told(other, 8), 99);
        }
        for (int other = 0; other < 4; other++) {
            owe(x, other, 4, 99);
            Check.due("6: is owed by all", x.told(4, 8), 99 * (other + 1));
            Check.due("6: owes one", x.told(other, 7), 99);
        }
    }

    /** 7: "A byte comes behind THE TAPE: how many it has." */
    private static void tapeFromEmptyToFull() {
        RolledUp x = new RolledUp();
        for (int n = 1; n <= 160; n++) {
            Check.due("7: how many it has", x.feed(n == 1 ? 0 : n == 2 ? 255 : n), n);
            Check.due("26: bytes of THE TAPE", x.count(5), n);
        }
        Check.due("7: FULL", x.feed(0), -4);
        Check.due("7: FULL, again", x.feed(255), -4);
        Check.due("26: 160", x.count(5), 160);
    }

    /** 8: "THE TAPE, which is empty then, is a TEXT: its number; -100 less the place of its FAULT." */
    private static void faultsTakeNoRoom() {
        RolledUp x = new RolledUp();
        for (int n = 0; n < 10; n++) {
            Check.due("8: FAULT at 0", Check.read(x, "?"), -100);
            Check.due("8: empty then", x.count(5), 0);
        }
        Check.due("8: FAULT behind 160 bytes", Check.read(x, " ".repeat(160)), -260);
        Check.due("8: FAULT of the last byte", Check.read(x, " ".repeat(159) + "?"), -259);
        Check.due("8: FAULT of nothing", x.text(), -100);
        Check.due("8: one TEXT", x.count(4), 1);
        Check.due("8: the first one of one's own", Check.read(x, "wants 0;takes 0;lends 0;"), 1);
    }

    /** 10, 11: the longest way of each KIND, takes 99: YARDS 99, NUMBER 9, LOAD 9. */
    private static void hoursAtMost() {
        int[] mud = {99, 99, 99, 54, 99, 99};
        int[] hours = {198, 207, 189, 225, 189, 216};
        for (int kind = 0; kind < 6; kind++) {
            RolledUp x = new RolledUp();
            Check.due("8: a TEXT", Check.read(x, "wants 0;takes 9999;lends 0;"), 1);
            x.force(1);
            x.one(kind, 999, 9);
            x.mud(0, 7, mud[kind]);
            Check.due("10: hours of kind " + kind, x.can(0, 7, 1), hours[kind]);
            Check.due("12: hours of kind " + kind, x.soonest(0, 7, 0), hours[kind]);
            Check.due("11: HOUR then", x.go(0, 7), hours[kind]);
        }
    }

    /** 12, 13: by all eight STONES; 0 ways, if they are there. */
    private static void longestRows() {
        RolledUp x = with(2);
        int[] row = {0, 7, 1, 6, 2, 5, 3, 4};
        for (int i = 1; i < 8; i++) {
            Check.due("12: no row yet", x.soonest(0, row[i], 0), -1);
            Check.due("13: no row yet", x.together(0, 1, row[i]), -1);
            x.mud(row[i - 1], row[i], 99);
            Check.due("12: " + i + " ways", x.soonest(0, row[i], 0), 99 * i);
            Check.due("12: the first stone", x.soonest(0, row[i], 1), 7);
            Check.due("13: " + i + " ways", x.together(0, 1, row[i]), i);
        }
        Check.due("12: there", x.soonest(0, 0, 0), 0);
        Check.due("12: there, NONE", x.soonest(0, 0, 1), -1);
        Check.due("13: there", x.together(0, 1, 0), 0);
        x.set(1, 0, 49);
        x.set(1, 1, 50);
        Check.due("13: 49 and 50 are 99", x.together(0, 1, 4), 7);
        x.set(1, 1, 49);
        Check.due("13: 49 and 49", x.together(0, 1, 4), -1);
    }

    /** 13: from each STONE to each: 0 ways, 1 way, or NONE, if there is no MUD. */
    private static void togetherFromEachStone() {
        for (int from = 0; from < 8; from++) {
            for (int to = 0; to < 8; to++) {
                RolledUp x = new RolledUp();
                x.one(0, 40, 0);
                x.one(0, 50, 0);
                x.set(0, 0, from);
                x.set(0, 1, from);
                Check.due("13: no MUD", x.together(0, 1, to), from == to ? 0 : -1);
                x.mud(from, to, 10);
                Check.due("13: 10 yards, 4 and 5", x.together(0, 1, to), from == to ? 0 : -1);
                x.mud(from, to, 9);
                Check.due("13: 9 yards, 4 and 5", x.together(0, 1, to), from == to ? 0 : 1);
                Check.due("13: 9 yards, 5 and 4", x.together(1, 0, to), from == to ? 0 : 1);
                for (int other = 0; other < 8; other++) {
                    if (other != from && other != to) {
                        Check.due("13: no MUD to another one", x.together(0, 1, other), -1);
                    }
                }
            }
        }
    }

    /** 14: "LENDING of yards (1 .. 99): what it costs." */
    private static void lendingAtMost() {
        RolledUp x = with(2);
        Check.due("8: a TEXT", Check.read(x, "wants 0;takes 0;lends 99;"), 1);
        Check.due("8: a TEXT", Check.read(x, "wants 0;takes 0;lends 0;"), 2);
        x.force(1);
        x.set(1, 1, 0);
        Check.due("14: 99 yards for 99 each", x.lend(0, 1, 99), 9801);
        Check.due("14: none left", x.told(0, 1), 0);
        Check.due("14: all 99", x.told(1, 1), 99);
        Check.due("15: 99", x.owed(1, 0), 99);
        x.force(2);
        Check.due("14: back, for nothing", x.lend(1, 0, 1), 0);
        Check.due("14: 98", x.lend(1, 0, 98), 0);
        Check.due("15: 99 each", x.owed(0, 1), 99);
        Check.due("14: it would owe 100", x.set(1, 1, 1) + x.set(1, 0, 0) + x.lend(1, 0, 1), 0 + 99 - 3);
    }

    /** 16: "all that is taken so, together (of each ring what is taken from one of it)." */
    private static void ringsOfAll() {
        Check.due("16: nobody", new RolledUp().rings(), 0);
        Check.due("16: one", with(1).rings(), 0);
        RolledUp x = with(5);
        for (int a = 0; a < 5; a++) {
            for (int b = 0; b < 5; b++) {
                if (a != b) {
                    owe(x, a, b, 99);
                }
            }
        }
        Check.due("26: 20 times 99", x.count(7), 1980);
        Check.due("16: 10 times 99", x.rings(), 990);
        Check.due("26: nothing owed", x.count(7), 0);
        Check.due("16: no ring more", x.rings(), 0);
        RolledUp y = with(3);
        owe(y, 0, 1, 99);
        owe(y, 1, 2, 99);
        owe(y, 2, 0, 1);
        Check.due("16: the least of three", y.rings(), 1);
        Check.due("16: 98 left", y.owed(0, 1), 98);
        Check.due("16: 98 left", y.owed(1, 2), 98);
        Check.due("16: none left", y.owed(2, 0), 0);
        Check.due("16: no ring left", y.rings(), 0);
    }

    /** 17: "the fewest ways (1 .. 8)": the thief's DOUBLE rug wants 1 more each way. */
    private static void shakenFromOneToEight() {
        RolledUp x = new RolledUp();
        Check.due("8: a TEXT", Check.read(x, "wants wet*load;takes 0;lends 0;"), 1);
        x.force(1);
        x.one(3, 400, 0);
        x.one(3, 400, 1);
        Check.due("17: no way", x.shaken(0, 1), -1);
        for (int ways = 1; ways <= 9; ways++) {
            x.mud(0, 1, ways == 1 ? 1 : 22 - ways);
            x.set(1, 1, ways == 1 ? 1 : 40);
            Check.due("17: shaken off behind " + ways, x.shaken(0, 1), ways <= 8 ? ways : -1);
        }
        x.mud(0, 1, 21);
        Check.due("17: the one can't, either", x.shaken(0, 1), -1);
    }

    /** 17: by a first way that both can go from each STONE to each other one, and a second that the thief can't. */
    private static void shakenFromEachStone() {
        for (int from = 0; from < 8; from++) {
            for (int to = 0; to < 8; to++) {
                int third = (from + 1) % 8 == to ? (from + 2) % 8 : (from + 1) % 8;
                if (from == to) {
                    continue;
                }
                RolledUp x = new RolledUp();
                x.one(0, 60, 0);
                x.one(0, 50, 0);
                x.set(0, 0, from);
                x.set(0, 1, from);
                x.mud(from, to, 5);
                Check.due("17: both can", x.shaken(0, 1), -1);
                x.mud(to, third, 7);
                Check.due("17: neither can", x.shaken(0, 1), -1);
                x.mud(to, third, 6);
                Check.due("17: the second way", x.shaken(0, 1), 2);
                Check.due("17: one can't where the thief can", x.shaken(1, 0), -1);
                x.mud(from, to, 6);
                Check.due("17: the first way", x.shaken(0, 1), 1);
            }
        }
    }

    /** 18: two STONES, and a full SHEET of 40; nobody, and all five. */
    private static void printsOfFortyStones() {
        RolledUp x = new RolledUp();
        x.sheet(0, 0, 40);
        for (int i = 0; i < 40; i++) {
            x.cell(0, i, i % 2 == 0 ? 7 : 6);
        }
        Check.due("18: nobody", x.prints(0), 0);
        for (int one = 0; one < 5; one++) {
            x.one(0, 100, 0);
            Check.due("18: no MUD", x.prints(0), 0);
            x.mud(6, 7, 10);
            Check.due("18: all who are there", x.prints(0), (2 << one) - 1);
            x.mud(6, 7, 0);
        }
        x.mud(6, 7, 10);
        x.set(1, 4, 9);
        Check.due("18: all but the last one", x.prints(0), 15);
        x.cell(0, 39, 5);
        Check.due("18: no way to the last STONE", x.prints(0), 0);
        x.mud(6, 5, 1);
        Check.due("18: no way from 7 to it", x.prints(0), 0);
        x.mud(7, 5, 10);
        Check.due("18: a way from 7 to it", x.prints(0), 15);
        x.cell(0, 39, 8);
        Check.due("18: the last one is no STONE", x.prints(0), -2);
        Check.tell(x, 1, 2, 6, 7);
        Check.due("18: two STONES", x.prints(1), 15);
    }

    /** 19: "of d 0 .. 23", "of like ones the first", with RAIN of the HOUR d later, also behind 9999. */
    private static void outInTheLastHour() {
        for (int hour : new int[] {0, 1, 22, 23, 24, 9998, 9999}) {
            for (int dry = 0; dry < 24; dry++) {
                RolledUp x = with(1);
                Check.due("8: a TEXT", Check.read(x, "wants 0;takes rain*11;lends 0;"), 1);
                x.force(1);
                x.mud(0, 1, 5);
                for (int h = 0; h < 24; h++) {
                    x.set(6, h, 9);
                }
                x.set(5, 0, hour);
                x.set(6, (hour + dry) % 24, 0);
                Check.due("19: dry " + dry + " hours behind " + hour, x.out(0, 1, 0), dry);
                Check.due("19: there, so many hours from now", x.out(0, 1, 1), dry + 5);
                x.set(6, (hour + dry) % 24, 9);
                Check.due("19: of like ones the first", x.out(0, 1, 0), 0);
                Check.due("19: 5 and 99", x.out(0, 1, 1), 104);
            }
        }
        RolledUp x = with(1);
        x.mud(0, 1, 5);
        x.mud(1, 2, 5);
        x.set(6, 0, 2);
        x.set(6, 1, 1);
        Check.due("19: 0 and 12, 1 and 11, 2 and 10: the first", x.out(0, 2, 0), 0);
        Check.due("19: 12", x.out(0, 2, 1), 12);
        x.set(6, 0, 3);
        Check.due("19: 0 and 13, 1 and 11, 2 and 10", x.out(0, 2, 0), 1);
        Check.due("19: 12", x.out(0, 2, 1), 12);
    }

    /** 20: "(10 times the lesser STONE, and the other)", from 1 (0 and 1) to 67; who is there counts. */
    private static void eachPairIsTheRoad() {
        RolledUp nobody = new RolledUp();
        Check.due("20: the first pair of all", nobody.road(7, 0), 1);
        for (int from = 0; from < 8; from++) {
            for (int to = 0; to < 8; to++) {
                RolledUp x = new RolledUp();
                x.one(0, 10, 0);
                x.set(0, 0, from);
                int pair = from == to ? 1 : 10 * Math.min(from, to) + Math.max(from, to);
                Check.due("20: the pair", x.road(to, 0), pair);
                Check.due("20: one comes", x.road(to, 1), 1);
                Check.due("20: hours", x.road(to, 2), from == to ? 0 : 1);
                x.set(1, 0, 0);
                Check.due("20: no yards: of like ones the first", x.road(to, 0), 1);
                Check.due("20: who is there could come", x.road(to, 1), from == to ? 1 : 0);
                Check.due("20: no hours", x.road(to, 2), 0);
            }
        }
        RolledUp x = with(5);
        for (int one = 0; one < 5; one++) {
            x.set(0, one, 6);
        }
        x.mud(6, 7, 99);
        x.set(6, 0, 4);
        Check.due("20: all five", x.road(7, 1), 5);
        Check.due("20: the last pair", x.road(7, 0), 67);
        Check.due("20: 5 hours, as all set out dry", x.road(7, 2), 5);
        x.set(2, 4, 9);
        Check.due("20: 9 more of one who is WET", x.road(7, 2), 14);
        x.mud(6, 7, 0);
        x.mud(6, 5, 2);
        x.mud(5, 7, 2);
        x.set(1, 0, 1);
        Check.due("20: 0 can go by a road alone", x.road(7, 0), 67);
        x.mud(6, 5, 1);
        Check.due("20: fewest hours: by the road at once", x.road(7, 2), 14);
    }

    /** 21: "the first row (from 0) that isn't such, or that one CAN'T by then; NONE": 0 .. 20 rows. */
    private static void judgedTwentyRows() {
        RolledUp x = with(2);
        x.mud(0, 1, 1);
        for (int rows = 0; rows <= 20; rows++) {
            x.sheet(0, 1, 2 * rows);
            for (int row = 0; row < rows; row++) {
                x.cell(0, 2 * row + 1, 1 - row % 2);
            }
            Check.due("21: NONE of " + rows + " rows", x.judge(0), -1);
        }
        for (int row = 19; row >= 0; row--) {
            x.cell(0, 2 * row, 2);
            Check.due("21: nobody in row " + row, x.judge(0), row);
        }
    }

    /** 22: "n rounds (0 .. 30)". */
    private static void drawnNothing() {
        Check.due("22: nobody", new RolledUp().drawn(1, 30, 0), 0);
        RolledUp x = with(5);
        for (int n = 0; n <= 30; n++) {
            Check.due("22: none can go: all are there", x.drawn(n, n, 0), 5);
            Check.due("22: none can go: nobody elsewhere", x.drawn(-n, n, 7), 0);
        }
        x.mud(0, 1, 1);
        Check.due("22: no round, though there is a way", x.drawn(3, 0, 0), 5);
        int seed = 0;
        while (((seed * 1103515245 + 12345) >>> 9) % 8 != 1) {
            seed++;
        }
        RolledUp y = with(1);
        y.mud(0, 1, 1);
        Check.due("22: one round", y.drawn(seed, 1, 1), 1);
        Check.due("22: no round", y.drawn(seed, 0, 1), 0);
    }

    /** 22: "z = z * 1103515245 + 12345 (an int; SEED at first)", "STONE (z >>> 9) % 8": all MUD is 1, so one is there. */
    private static void drawnByAnInt() {
        int[] seeds = {0, 1, -1, 7, 255, 256, 65535, 65536, 1 << 30, -(1 << 30), Integer.MAX_VALUE, Integer.MAX_VALUE - 1, Integer.MIN_VALUE, Integer.MIN_VALUE + 1};
        for (int seed : seeds) {
            RolledUp x = with(1);
            for (int a = 0; a < 8; a++) {
                for (int b = 0; b < a; b++) {
                    x.mud(a, b, 1);
                }
            }
            long z = seed;
            for (int n = 1; n <= 30; n++) {
                z = (z * 1103515245L + 12345L) & 0xFFFFFFFFL;
                int stone = (int) ((z / 512) % 8);
                Check.due("22: seed " + seed + ", " + n + " rounds", x.drawn(seed, n, stone), 1);
                Check.due("22: it is on one STONE alone", x.drawn(seed, n, (stone + 1) % 8), 0);
            }
        }
    }

    /** 23: "In how many of 1 .. 20 seeds, SEED and each 1 more (an int) ..: .. in lowest terms." */
    private static void chanceInLowestTerms() {
        RolledUp x = with(1);
        x.mud(0, 1, 1);
        for (int start : new int[] {0, -20, Integer.MAX_VALUE, Integer.MAX_VALUE - 19, Integer.MAX_VALUE - 10, Integer.MIN_VALUE}) {
            for (int seeds = 1; seeds <= 20; seeds++) {
                RolledUp y = with(1);
                y.mud(0, 1, 1);
                int hits = 0;
                for (int i = 0; i < seeds; i++) {
                    hits += y.drawn(start + i, 3, 1);
                }
                int measure = seeds;
                while (hits % measure != 0 || seeds % measure != 0) {
                    measure--;
                }
                Check.due("23: above, " + hits + " of " + seeds, y.chance(start, seeds, 3, 1, 0), hits / measure);
                Check.due("23: below, " + hits + " of " + seeds, y.chance(start, seeds, 3, 1, 1), seeds / measure);
            }
        }
        for (int seeds = 1; seeds <= 20; seeds++) {
            Check.due("23: never: 0", x.chance(1, seeds, 0, 1, 0), 0);
            Check.due("23: never: over 1", x.chance(1, seeds, 0, 1, 1), 1);
            Check.due("23: always: 1", x.chance(1, seeds, 0, 0, 0), 1);
            Check.due("23: always: over 1", x.chance(1, seeds, 0, 0, 1), 1);
        }
        RolledUp two = with(2);
        Check.due("23: any is there: two count once", two.chance(1, 20, 0, 0, 0), 1);
        Check.due("23: nobody", new RolledUp().chance(1, 20, 30, 0, 0), 0);
        Check.due("23: nobody: over 1", new RolledUp().chance(1, 20, 30, 0, 1), 1);
    }

    /** 24, 25: "(PEOPLE that came since go)"; none, and five. */
    private static void imagesOfNobodyAndOfFive() {
        RolledUp x = new RolledUp();
        Check.due("24: nobody", x.image(), 0);
        for (int one = 0; one < 5; one++) {
            Check.due("4: " + one, x.one(0, 990, 0), one);
        }
        Check.due("4: FULL", x.one(0, 990, 0), -4);
        Check.due("25: nobody", x.back(), 0);
        Check.due("25: all five have gone", x.told(0, 0), -2);
        for (int one = 0; one < 5; one++) {
            Check.due("4: there is room again", x.one(1, 121, 3), one);
        }
        Check.due("4: FULL again", x.one(0, 990, 0), -4);
        owe(x, 4, 0, 9);
        Check.due("24: five", x.image(), 5);
        x.rings();
        owe(x, 0, 4, 9);
        Check.due("16: a ring", x.rings(), 9);
        Check.due("25: five", x.back(), 5);
        Check.due("25: owed as it was", x.owed(4, 0), 9);
        Check.due("25: KIND", x.told(4, 5), 1);
        Check.due("4: FULL still", x.one(0, 990, 0), -4);
    }

    /** 26: each count at its most. */
    private static void countsAtMost() {
        RolledUp x = with(5);
        for (int a = 0; a < 8; a++) {
            for (int b = 0; b < a; b++) {
                x.mud(a, b, 99);
            }
        }
        x.set(5, 0, 9999);
        x.set(6, 15, 9);
        for (int n = 1; n < 6; n++) {
            Check.due("8: a TEXT", Check.read(x, "wants 0;takes 0;lends 0;"), n);
        }
        x.force(5);
        for (int n = 0; n < 160; n++) {
            x.feed(32);
        }
        int[] most = {5, 28, 9999, 9, 6, 160, 5, 0};
        for (int what = 0; what < 8; what++) {
            Check.due("26: count " + what, x.count(what), most[what]);
        }
    }

    /** What stands in a SHEET at i, if it is 0 .. 99, else -1; SHEET 3 and STONES 0, 1 are used for it. */
    private static int at(RolledUp x, int sheet, int sort, int i) {
        x.sheet(3, sort, 3);
        x.cell(3, 1, 1);
        if (x.copy(sheet, i, 3, 2, 1) != 1 || x.muds(3, sort, 0, 1) != 1) {
            return -1;
        }
        return x.far(0, 1);
    }

    /** 27: "A SHEET becomes a row of n of a sort, all 0." */
    private static void sheetsFromNoneToForty() {
        for (int sort = 0; sort < 3; sort++) {
            RolledUp x = new RolledUp();
            for (int n = 0; n <= 40; n++) {
                Check.due("27: n", x.sheet(2, sort, n), 1);
                Check.due("28: none behind the last", x.cell(2, n, 1), -12);
                Check.due("28: the last", x.cell(2, n - 1, 7), n == 0 ? -12 : 1);
            }
            Check.due("27: all 7", at(x, 2, sort, 39), 7);
            Check.due("27: as many, anew", x.sheet(2, sort, 40), 1);
            for (int i = 0; i < 40; i++) {
                Check.due("27: all 0", at(x, 2, sort, i), 0);
            }
            x.cell(2, 1, 5);
            x.sheet(2, sort, 1);
            x.sheet(2, sort, 2);
            Check.due("27: all 0, also what a shorter row hid", at(x, 2, sort, 1), 0);
            x.sheet(2, -1, 0);
            Check.due("27: missing", x.cell(2, 0, 0), -11);
            x.sheet(2, sort, 2);
            Check.due("27: all 0 behind that", at(x, 2, sort, 1), 0);
        }
    }

    /** 28: "(of bytes, shorts its lowest 8, 16 bits)": -1 stands for what is no MUD. */
    private static void bitsOfCells() {
        int[][] rows = {
            {0, 0, 0, 0}, {99, 99, 99, 99}, {100, -1, -1, -1}, {127, -1, -1, -1}, {128, -1, -1, -1}, {255, -1, -1, -1},
            {256, 0, -1, -1}, {256 + 99, 99, -1, -1}, {-256 + 7, 7, -1, -1}, {32767, -1, -1, -1}, {32768, 0, -1, -1}, {65535, -1, -1, -1},
            {65536, 0, 0, -1}, {65536 + 98, 98, 98, -1}, {-65536 + 97, 97, 97, -1}, {-1, -1, -1, -1}, {-128, -1, -1, -1},
            {Integer.MIN_VALUE, 0, 0, -1}, {Integer.MIN_VALUE + 5, 5, 5, -1}, {Integer.MAX_VALUE, -1, -1, -1}, {65536 + 256 + 5, 5, -1, -1}};
        for (int[] row : rows) {
            for (int sort = 0; sort < 3; sort++) {
                RolledUp x = new RolledUp();
                x.sheet(0, sort, 40);
                Check.due("28: first item", x.cell(0, 0, row[0]), 1);
                Check.due("28: last item", x.cell(0, 39, row[0]), 1);
                Check.due("28: " + row[0] + " in sort " + sort, at(x, 0, sort, 0), row[sort + 1]);
                Check.due("28: " + row[0] + " in sort " + sort, at(x, 0, sort, 39), row[sort + 1]);
                Check.due("28: none beside it", at(x, 0, sort, 1), 0);
            }
        }
    }

    /** 29: "n numbers of a SHEET, from item i on, come to another one's item j on (as they were): n." */
    private static void copiesAtTheEnds() {
        for (int sort = 0; sort < 3; sort++) {
            RolledUp x = new RolledUp();
            x.sheet(0, sort, 40);
            x.sheet(1, sort, 40);
            for (int i = 0; i < 40; i++) {
                x.cell(0, i, i + 1);
            }
            Check.due("29: all 40", x.copy(0, 0, 1, 0, 40), 40);
            Check.due("29: the first", at(x, 1, sort, 0), 1);
            Check.due("29: the last", at(x, 1, sort, 39), 40);
            Check.due("29: the last to the first", x.copy(0, 39, 1, 0, 1), 1);
            Check.due("29: it is there", at(x, 1, sort, 0), 40);
            Check.due("29: the first to the last", x.copy(0, 0, 1, 39, 1), 1);
            Check.due("29: it is there", at(x, 1, sort, 39), 1);
            Check.due("29: others are as they were", at(x, 1, sort, 38), 39);
            Check.due("29: none, behind the last", x.copy(0, 40, 1, 40, 0), 0);
            Check.due("29: one more than all", x.copy(0, 0, 1, 0, 41), -12);
            Check.due("29: onto itself", x.copy(0, 0, 0, 0, 40), 40);
            Check.due("29: up by one, as they were", x.copy(0, 0, 0, 1, 39), 39);
            Check.due("29: the first stays", at(x, 0, sort, 0), 1);
            Check.due("29: the last was the one ahead", at(x, 0, sort, 39), 39);
            Check.due("29: down by one, as they were", x.copy(0, 1, 0, 0, 39), 39);
            Check.due("29: the first again", at(x, 0, sort, 0), 1);
            Check.due("29: the last but one", at(x, 0, sort, 38), 39);
            x.sheet(2, sort, 0);
            Check.due("29: none of none", x.copy(2, 0, 2, 0, 0), 0);
            Check.due("29: none of none to another", x.copy(2, 0, 0, 40, 0), 0);
            Check.due("29: one of none", x.copy(2, 0, 0, 0, 1), -12);
            Check.due("29: one to none", x.copy(0, 0, 2, 0, 1), -12);
        }
    }

    /** 30: "n of them (0 .. 13)"; "-12: what stood ahead became so." */
    private static void thirteenMuds() {
        for (int sort = 0; sort < 3; sort++) {
            for (int from = 0; from <= 40; from++) {
                for (int n : new int[] {0, 1, 12, 13}) {
                    RolledUp x = new RolledUp();
                    x.sheet(0, sort, 40);
                    for (int k = 0; from + 3 * k + 2 < 40; k++) {
                        x.cell(0, from + 3 * k, k / 7);
                        x.cell(0, from + 3 * k + 1, 7 - k % 7);
                        x.cell(0, from + 3 * k + 2, k + 1);
                    }
                    int whole = (40 - from) / 3;
                    Check.due("30: " + n + " from " + from, x.muds(0, sort, from, n), n <= whole ? n : -12);
                    int last = Math.min(n, whole) - 1;
                    if (last >= 0) {
                        Check.due("30: the last that is inside became so", x.far(last / 7, 7 - last % 7), last + 1);
                    }
                    Check.due("30: so many pairs", x.count(1), last + 1);
                }
            }
        }
        RolledUp x = new RolledUp();
        x.sheet(0, 0, 2);
        Check.due("30: none of two numbers", x.muds(0, 0, 0, 0), 0);
        Check.due("30: one of two numbers", x.muds(0, 0, 0, 1), -12);
        x.sheet(0, 0, 3);
        Check.due("30: one of three, alike STONES", x.muds(0, 0, 0, 1), 0);
        x.sheet(0, 0, 0);
        Check.due("30: none of none", x.muds(0, 0, 0, 0), 0);
        Check.due("30: one of none", x.muds(0, 0, 0, 1), -12);
    }

    /** 30: "how many became so (others are left out)": from, to, v, whether it becomes so. */
    private static void mudsLeftOut() {
        int[][] rows = {{0, 7, 99, 1}, {7, 0, 0, 1}, {0, 1, 1, 1}, {0, 7, 100, 0}, {0, 7, -1, 0}, {0, 8, 5, 0}, {8, 0, 5, 0}, {-1, 0, 5, 0}, {0, -1, 5, 0},
            {3, 3, 5, 0}, {3, 3, 0, 0}, {6, 7, 127, 0}, {6, 7, -128, 0}};
        for (int[] row : rows) {
            for (int sort = 0; sort < 3; sort++) {
                RolledUp x = new RolledUp();
                x.mud(0, 7, 50);
                x.mud(6, 7, 50);
                Check.tell(x, 1, sort, 1, 2, 3, row[0], row[1], row[2], 4, 5, 6);
                Check.due("30: left out or not: " + row[0] + " " + row[1] + " " + row[2], x.muds(1, sort, 0, 3), 2 + row[3]);
                Check.due("30: what stood ahead", x.far(1, 2), 3);
                Check.due("30: what stood behind", x.far(4, 5), 6);
                Check.due("30: 6 to 7 as it was", x.far(6, 7), 50);
                if (row[3] == 1) {
                    Check.due("30: it became so", x.far(row[0], row[1]), row[2]);
                } else {
                    Check.due("30: 0 to 7 as it was", x.far(0, 7), 50);
                }
            }
        }
    }

    /** 31: "taken for one of KIND k (0 .. 5), or one under that one (also by others between): its NUMBER." */
    private static void takenForEach() {
        String[] under = {"0", "10", "20", "310", "420", "510"};
        for (int kind = 0; kind < 6; kind++) {
            for (int number : new int[] {0, 9}) {
                RolledUp x = new RolledUp();
                for (int one = 0; one < 5; one++) {
                    x.one(one == 4 ? kind : (kind + 1) % 6, one == 4 ? 500 + number : 505, 0);
                }
                for (int k = 0; k < 6; k++) {
                    boolean is = under[kind].indexOf('0' + k) >= 0;
                    Check.due("31: kind " + kind + " for " + k, x.taken(4, k), is ? number : -13);
                }
                Check.due("31: no sixth one", x.taken(5, 0), -11);
            }
        }
    }
}
