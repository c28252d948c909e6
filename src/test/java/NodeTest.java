/** Promise 6: the nodes to which the states belong. */
public final class NodeTest {
    public static void main(String[] args) {
        Check.sentence("6: The number of the node to which state v belongs");
        dueNodes("", "0 0 0 1");
        dueNodes(".", "0 0 0 1 1 1 2");
        dueNodes("()", "0 0 0 1 1 1 1 1 1 2");
        dueNodes("().", "0 0 0 1 1 1 2 2 2 2 2 2 3");
        dueNodes("()()", "0 0 0 1 2 3 3 3 3 3 3 4 5 5 6 6 6 6 6 6 7");
        dueNodes("(.)().", "0 0 0 1 1 1 2 3 4 4 4 4 4 4 5 5 5 6 7 7 8 8 8 8 8 8 9");
        StateEdges.due("6", "node", FoldedFamily::node);
        Check.end();
    }

    private static void dueNodes(String marks, String nodes) {
        Check.dueRow("nodes of " + marks, Check.row(Check.built(2, marks)::node), nodes);
    }
}
