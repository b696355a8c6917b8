/** Counts answers that are not the ones that are due, and makes gardens for the tests beside it. */
final class Checks {
    static final int NULL = -11, CAST = -12, INDEX = -13, SIZE = -14;
    static final int BYTES = 0, SHORTS = 1, INTS = 2;

    private int asked;
    private int wrong;

    void due(String call, long got, long want) {
        asked++;
        if (got != want) {
            wrong++;
            System.out.println(call + " answered " + got + ", due is " + want);
        }
    }

    /** An answer and, behind it, what fault() tells. */
    void dueWithFault(MarbleGarden x, String call, long got, long want, int fault) {
        due(call, got, want);
        due("fault() behind " + call, x.fault(), fault);
    }

    void finish() {
        System.out.println(asked + " answers, " + wrong + " of them not as due");
        if (wrong != 0 || asked == 0) {
            System.exit(1);
        }
    }

    /** A SHEET gets these numbers. */
    static void fill(MarbleGarden x, int sheet, int lane, int... numbers) {
        x.sheet(sheet, lane, numbers.length);
        for (int i = 0; i < numbers.length; i++) {
            x.put(sheet, i, numbers[i]);
        }
    }

    static void fill(MarbleGarden x, int sheet, int lane, String text) {
        fill(x, sheet, lane, text.chars().toArray());
    }

    /** What garden() answers for a TEXT; SHEET 0 is used for it. */
    static int take(MarbleGarden x, String text) {
        fill(x, 0, BYTES, text);
        return x.garden(0, BYTES, 0, text.length());
    }

    static MarbleGarden gardenOf(String text) {
        MarbleGarden x = new MarbleGarden();
        int blocks = take(x, text);
        if (blocks < 1) {
            throw new IllegalStateException(text + " is no TEXT: " + blocks);
        }
        return x;
    }
}
