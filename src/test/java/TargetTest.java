/** Promise 7: the targets of every kind of state, in their order. */
public final class TargetTest {
    public static void main(String[] args) {
        everyKindOfNode();
        noColumns();
        StepEdges.due("7", "target", FoldedFamily::target);
        StateEdges.due("7", "target 0", (x, v) -> x.target(v, 0));
        Check.end();
    }

    private static void dueTargets(FoldedFamily x, String... due) {
        for (int v = 0; v < due.length; v++) {
            int state = v;
            Check.dueRow("targets of " + v, Check.row(k -> x.target(state, k)), due[v]);
        }
        Check.dueNone("kind behind the last", x.kind(due.length));
    }

    private static void everyKindOfNode() {
        Check.sentence("7: Target k (from 0) of state v");
        dueTargets(Check.built(2, "(.)().", 0, 0, 04, 0, 04, 0),
            "1 2 3 4", "1 2 3 4", "2 3 4",
            "5 6", "5 6", "5 6",
            "7 18",
            "8 9 10 11",
            "12 13 14 15", "12 13 14 15", "12 13 14 15", "12 13 14 15", "12 13 14 15", "13 14 15",
            "16 17", "16 17", "16 17",
            "",
            "19 20 21 22 23", "19 20 21 22 23",
            "24 25 26", "24 25 26", "24 25 26", "24 25 26", "24 25 26", "25 26",
            "");
    }

    private static void noColumns() {
        Check.sentence("7: targets where there are no columns");
        dueTargets(Check.built(1, ""), "1 2 3", "1 2 3", "2 3", "");
    }
}
