/** Promise 7: the targets of every kind of state, in their order. */
public final class TargetTest {
    public static void main(String[] args) {
        everyKindOfNode();
        noColumns();
        wrongInputsAreRefused();
        Check.end();
    }

    private static void everyKindOfNode() {
        FoldedFamily x = Check.built(2, "(.)().", 0, 0, 04, 0, 04, 0);
        String[] due = {
            "1 2 3 4", "1 2 3 4", "2 3 4",
            "5 6", "5 6", "5 6",
            "7 18",
            "8 9 10 11",
            "12 13 14 15", "12 13 14 15", "12 13 14 15", "12 13 14 15", "12 13 14 15", "13 14 15",
            "16 17", "16 17", "16 17",
            "",
            "19 20 21 22 23", "19 20 21 22 23",
            "24 25 26", "24 25 26", "24 25 26", "24 25 26", "24 25 26", "25 26",
            ""};
        for (int v = 0; v < due.length; v++) {
            int state = v;
            Check.dueRow("targets of " + v, Check.row(k -> x.target(state, k)), due[v]);
        }
        Check.due("kind(27)", x.kind(27), Check.NONE);
    }

    private static void noColumns() {
        FoldedFamily x = Check.built(1, "");
        String[] due = {"1 2 3", "1 2 3", "2 3", ""};
        for (int v = 0; v < due.length; v++) {
            int state = v;
            Check.dueRow("targets of " + v, Check.row(k -> x.target(state, k)), due[v]);
        }
    }

    private static void wrongInputsAreRefused() {
        FoldedFamily x = Check.built(1, "()");
        int[] wrong = {-1, 6, 7, Integer.MIN_VALUE, Integer.MAX_VALUE};
        Check.due("target(0, 5)", x.target(0, 5), 6);
        for (int k : wrong) {
            Check.due("target(0, " + k + ")", x.target(0, k), Check.NONE);
        }
        for (int v : new int[] {-1, 10, 43, Integer.MIN_VALUE, Integer.MAX_VALUE}) {
            Check.due("target(" + v + ", 0)", x.target(v, 0), Check.NONE);
        }
        x.column('.', 0);
        Check.due("target(0, 0) without a grammar", x.target(0, 0), Check.NONE);
    }
}
