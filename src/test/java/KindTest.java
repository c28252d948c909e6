/** Promise 5: the kinds of states. */
public final class KindTest {
    public static void main(String[] args) {
        Check.sentence("5: The kind of state v (0 .. 8)");
        dueKinds("", "0 5 6 8");
        dueKinds(".", "0 5 6 2 4 5 8");
        dueKinds("()", "0 5 6 1 2 3 4 5 6 8");
        dueKinds("().", "0 5 6 3 4 6 1 2 3 4 5 6 8");
        dueKinds("()()", "0 5 6 7 0 1 2 3 4 5 6 8 0 5 1 2 3 4 5 6 8");
        dueKinds("(.)().", "0 5 6 3 4 6 7 0 1 2 3 4 5 6 2 4 5 8 0 5 1 2 3 4 5 6 8");
        StateEdges.due("5", "kind", FoldedFamily::kind);
        Check.end();
    }

    private static void dueKinds(String marks, String kinds) {
        Check.dueRow("kinds of " + marks, Check.row(Check.built(2, marks)::kind), kinds);
    }
}
