/** Promise 8: the scores of steps. */
public final class StepTest {
    public static void main(String[] args) {
        rowsThroughOneBoth();
        rowsThroughLeftAndRight();
        stepsOfFork();
        logIsExact();
        wrongInputsAreRefused();
        Check.end();
    }

    private static void dueSteps(FoldedFamily x, int v, String due) {
        Check.dueRow("steps of " + v, Check.row(k -> x.step(v, k)), due);
    }

    /** Row 0 has both letters, row 1 the left one, row 2 none. */
    private static void rowsThroughOneBoth() {
        FoldedFamily x = Check.built(3, "()", 0400, 0440);
        dueSteps(x, 0, "-26 -26 -18 -18 -26 -18");
        dueSteps(x, 1, "-21 -21 -21 -21 -21 -21");
        dueSteps(x, 2, "-19 -19 -19 -19 -19");
        dueSteps(x, 3, "-16 -16 -8");
        dueSteps(x, 4, "-16 -16 -8");
        dueSteps(x, 5, "-13 -13 -13");
        dueSteps(x, 6, "-16 -16 -8");
        dueSteps(x, 7, "-13 -13 -13");
        dueSteps(x, 8, "-8 -8");
        dueSteps(x, 9, "");
    }

    /** Row 0 goes ML, MR; row 1 goes ML, D; row 2 goes D, MR; row 3 goes D, MR. */
    private static void rowsThroughLeftAndRight() {
        FoldedFamily x = Check.built(4, ".().", 04400, 0, 0, 00040);
        Check.due("kind(3)", x.kind(3), 2);
        Check.due("kind(6)", x.kind(6), 3);
        dueSteps(x, 0, "-24 -24 -12 -12");
        dueSteps(x, 3, "-19 -11 -11");
        dueSteps(x, 4, "-19 -6 -19");
        dueSteps(x, 5, "-13 -13 -13");
        dueSteps(x, 6, "-24 -8 -24 -24 -24");
        dueSteps(x, 7, "-21 -13 -21 -21 -21");
        dueSteps(x, 8, "-19 -19 -19 -19 -19");
    }

    /** All rows are in B and in the S of FIRST and SECOND; steps from B cost nothing. */
    private static void stepsOfFork() {
        FoldedFamily x = Check.built(2, "()()", 0, 0, 04, 04);
        dueSteps(x, 0, "-19 -19 -6");
        dueSteps(x, 3, "0 0");
        dueSteps(x, 4, "-8 -21 -21 -21");
        dueSteps(x, 12, "-23 -15 -23 -23 -15");
    }

    /** Every LOG that a step can ask for, with n rows that go one way and m targets. */
    private static void logIsExact() {
        for (int rows = 1; rows <= 4; rows++) {
            for (String marks : new String[] {"", ".", "()", "()()", "(.)", "().", "(())"}) {
                FoldedFamily x = Check.built(rows, marks);
                int targets = Check.row(v -> x.target(0, v)).split(" ").length;
                Check.due("step(0, 0) of " + marks, x.step(0, 0), PlainFamily.log(1, rows + targets));
                Check.due("step(0, 2) of " + marks, x.step(0, 2),
                        PlainFamily.log(rows + 1, rows + targets));
            }
        }
    }

    private static void wrongInputsAreRefused() {
        FoldedFamily x = Check.built(1, "()");
        for (int k : new int[] {-1, 6, 7, Integer.MIN_VALUE, Integer.MAX_VALUE}) {
            Check.due("step(0, " + k + ")", x.step(0, k), Check.NONE);
        }
        for (int v : new int[] {-1, 10, 43, Integer.MIN_VALUE, Integer.MAX_VALUE}) {
            Check.due("step(" + v + ", 0)", x.step(v, 0), Check.NONE);
        }
        Check.due("step(9, 0) from E", x.step(9, 0), Check.NONE);
        x.clear();
        Check.due("step(0, 0) without a grammar", x.step(0, 0), Check.NONE);
    }
}
