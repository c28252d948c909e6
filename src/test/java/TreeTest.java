/** Promises 5 and 6: the kinds of states and the nodes to which they belong. */
public final class TreeTest {
    public static void main(String[] args) {
        dueTree("", "0 5 6 8", "0 0 0 1");
        dueTree(".", "0 5 6 2 4 5 8", "0 0 0 1 1 1 2");
        dueTree("()", "0 5 6 1 2 3 4 5 6 8", "0 0 0 1 1 1 1 1 1 2");
        dueTree("().", "0 5 6 3 4 6 1 2 3 4 5 6 8", "0 0 0 1 1 1 2 2 2 2 2 2 3");
        dueTree(".().", "0 5 6 2 4 5 3 4 6 1 2 3 4 5 6 8",
                "0 0 0 1 1 1 2 2 2 3 3 3 3 3 3 4");
        dueTree("()()", "0 5 6 7 0 1 2 3 4 5 6 8 0 5 1 2 3 4 5 6 8",
                "0 0 0 1 2 3 3 3 3 3 3 4 5 5 6 6 6 6 6 6 7");
        dueTree("(.)().", "0 5 6 3 4 6 7 0 1 2 3 4 5 6 2 4 5 8 0 5 1 2 3 4 5 6 8",
                "0 0 0 1 1 1 2 3 4 4 4 4 4 4 5 5 5 6 7 7 8 8 8 8 8 8 9");
        dueTree("().()", "0 5 6 7 0 1 2 3 4 5 6 8 0 5 2 4 5 1 2 3 4 5 6 8",
                "0 0 0 1 2 3 3 3 3 3 3 4 5 5 6 6 6 7 7 7 7 7 7 8");
        belowFirstComesBeforeSecond();
        unpairedOutsideGoesLeftFirst();
        wrongStatesAreRefused();
        Check.end();
    }

    private static void dueTree(String marks, String kinds, String nodes) {
        FoldedFamily x = Check.built(2, marks);
        Check.dueRow("kinds of " + marks, Check.row(x::kind), kinds);
        Check.dueRow("nodes of " + marks, Check.row(x::node), nodes);
    }

    /** A fork within FIRST is numbered to its end before SECOND of the outer one. */
    private static void belowFirstComesBeforeSecond() {
        FoldedFamily x = Check.built(1, "(()())()");
        String kinds = "0 5 6 7 0 1 2 3 4 5 6"
                + " 7 0 1 2 3 4 5 6 8 0 5 1 2 3 4 5 6 8"
                + " 0 5 1 2 3 4 5 6 8";
        Check.dueRow("kinds of (()())()", Check.row(x::kind), kinds);
        Check.due("S of the inner FIRST", x.node(12), 5);
        Check.due("S of the inner SECOND", x.node(20), 8);
        Check.due("S of the outer SECOND", x.node(29), 11);
        Check.due("second target of the outer B", x.target(3, 1), 29);
        Check.due("second target of the inner B", x.target(11, 1), 20);
    }

    /** Unpaired columns at both ends: LEFT comes before RIGHT, and RIGHT takes the last first. */
    private static void unpairedOutsideGoesLeftFirst() {
        FoldedFamily x = Check.built(1, "...", 0, 1, 2);
        for (int c = 0; c < 3; c++) {
            Check.due("kind of column " + c, x.kind(3 + 3 * c), 2);
            Check.due("letter of column " + c, x.emits(3 + 3 * c, c, 0), 5);
        }
        x = Check.built(1, "()..", 0, 0, 1, 2);
        Check.due("kind(3) of ()..", x.kind(3), 3);
        Check.due("the last column goes first", x.emits(3, 2, 0), 5);
        Check.due("then the one before it", x.emits(6, 1, 0), 5);
    }

    private static void wrongStatesAreRefused() {
        FoldedFamily x = Check.built(1, "()");
        for (int v : new int[] {-1, 10, 43, 44, Integer.MIN_VALUE, Integer.MAX_VALUE}) {
            Check.due("kind(" + v + ")", x.kind(v), Check.NONE);
            Check.due("node(" + v + ")", x.node(v), Check.NONE);
        }
        Check.due("kind(9)", x.kind(9), 8);
        Check.due("node(9)", x.node(9), 2);
    }
}
