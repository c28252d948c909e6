/** Promise 8: the scores of steps. */
public final class StepTest {
    public static void main(String[] args) {
        rowsThroughOneBoth();
        rowsThroughLeftAndRight();
        StepEdges.due("8", "step", FoldedFamily::step);
        StateEdges.due("8", "step 0", (x, v) -> x.step(v, 0));
        Check.end();
    }

    private static void dueSteps(FoldedFamily x, String... due) {
        for (int v = 0; v < due.length; v++) {
            int state = v;
            Check.dueRow("steps of " + v, Check.row(k -> x.step(state, k)), due[v]);
        }
    }

    /** Row 0 has both letters, row 1 the left one, row 2 none. */
    private static void rowsThroughOneBoth() {
        Check.sentence("8: The score of the step from state v to its target k");
        dueSteps(Check.built(3, "()", 0400, 0440),
            "-26 -26 -18 -18 -26 -18", "-21 -21 -21 -21 -21 -21", "-19 -19 -19 -19 -19",
            "-16 -16 -8", "-16 -16 -8", "-13 -13 -13", "-16 -16 -8", "-13 -13 -13", "-8 -8",
            "");
    }

    /** Row 0 goes ML, MR; row 1 goes ML, D; row 2 goes D, MR; row 3 goes D, MR. */
    private static void rowsThroughLeftAndRight() {
        FoldedFamily x = Check.built(4, ".().", 04400, 0, 0, 00040);
        Check.due("kind(3)", x.kind(3), 2);
        Check.due("kind(6)", x.kind(6), 3);
        dueSteps(x,
            "-24 -24 -12 -12", "-16 -16 -16 -16", "-13 -13 -13",
            "-19 -11 -11", "-19 -6 -19", "-13 -13 -13",
            "-24 -8 -24 -24 -24", "-21 -13 -21 -21 -21", "-19 -19 -19 -19 -19");
    }
}
