/** Counts answers that are not as due, for the tests beside it. */
final class Check {
    private static int asked = 0;
    private static int wrong = 0;

    private Check() {
    }

    static void due(String what, long got, long want) {
        asked++;
        if (got != want) {
            wrong++;
            if (wrong <= 50) {
                System.out.println(what + " answered " + got + ", due is " + want);
            }
        }
    }

    /** Feeds a text and reads it: what text() answers. */
    static int read(RolledUp x, String text) {
        for (int i = 0; i < text.length(); i++) {
            due("feed " + i + " of '" + text + "'", x.feed(text.charAt(i)), i + 1);
        }
        return x.text();
    }

    /** Makes a sheet of a sort that tells the numbers. */
    static void tell(RolledUp x, int sheet, int sort, int... numbers) {
        due("sheet", x.sheet(sheet, sort, numbers.length), 1);
        for (int i = 0; i < numbers.length; i++) {
            due("cell " + i, x.cell(sheet, i, numbers[i]), 1);
        }
    }

    static void end() {
        System.out.println(asked + " answers, " + wrong + " wrong");
        if (wrong != 0 || asked == 0) {
            System.exit(1);
        }
    }
}
