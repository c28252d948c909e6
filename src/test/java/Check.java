/** Compares answers with those that are due, and ends a test with exit code 1 if one differed. */
final class Check {
    static final int NONE = -1000000;

    private static int asked;
    private static int wrong;

    private Check() {
    }

    static void due(String call, int got, int want) {
        asked++;
        if (got != want) {
            wrong++;
            System.out.println(call + " answered " + got + ", due is " + want);
        }
    }

    static void due(String call, boolean got, boolean want) {
        due(call, got ? 1 : 0, want ? 1 : 0);
    }

    /** Ends the test's main method. */
    static void end() {
        if (asked == 0 || wrong != 0) {
            System.out.println(wrong + " of " + asked + " answers are not as due");
            System.exit(1);
        }
    }

    static int wrong() {
        return wrong;
    }

    /** A family with these marks and, in every column, these letters. */
    static FoldedFamily family(int rows, String marks, int... letters) {
        FoldedFamily x = new FoldedFamily(rows);
        addColumns(x, marks, letters);
        return x;
    }

    static FoldedFamily built(int rows, String marks, int... letters) {
        FoldedFamily x = family(rows, marks, letters);
        x.build();
        return x;
    }

    /** Letters that are not given are 0: letter 0 in every row. */
    static void addColumns(FoldedFamily x, String marks, int... letters) {
        for (int c = 0; c < marks.length(); c++) {
            x.column(marks.charAt(c), c < letters.length ? letters[c] : 0);
        }
    }

    /** Feeds the digits 0 .. 3 of the text, one by one. */
    static void feedAll(FoldedFamily x, String text) {
        for (int i = 0; i < text.length(); i++) {
            x.feed(text.charAt(i) - '0', 1);
        }
    }

    /** What a call for each number from 0 on answers, up to the first NONE. */
    static String row(java.util.function.IntUnaryOperator call) {
        StringBuilder row = new StringBuilder();
        for (int k = 0; k < 1000; k++) {
            int answer = call.applyAsInt(k);
            if (answer == NONE) {
                break;
            }
            row.append(k == 0 ? "" : " ").append(answer);
        }
        return row.toString();
    }

    static void dueRow(String call, String got, String want) {
        asked++;
        if (!got.equals(want)) {
            wrong++;
            System.out.println(call + " answered " + got + ", due is " + want);
        }
    }
}
