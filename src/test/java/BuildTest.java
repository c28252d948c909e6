/** Promise 4: build answers the number of states and refuses marks that are not balanced. */
public final class BuildTest {
    public static void main(String[] args) {
        statesAreCounted();
        unbalancedMarksAreRefused();
        hitsGo();
        refusalChangesNothing();
        grammarFollowsTheColumns();
        Check.end();
    }

    private static void statesAreCounted() {
        String[] marks = {
            "", ".", "..", "()", ".()", "().", ".().", "(.)", "(())", "()()", "(()())",
            "((.)())", "()()()", "()()()()", "........", "(((())))", "().()", "(.).(.)."};
        int[] states = {
            4, 7, 10, 10, 13, 13, 16, 13, 16, 21, 27,
            30, 32, 43, 28, 28, 24, 33};
        for (int n = 0; n < marks.length; n++) {
            FoldedFamily x = Check.family(3, marks[n]);
            Check.due("build() of " + marks[n], x.build(), states[n]);
            Check.due("last state of " + marks[n], x.kind(states[n] - 1), 8);
            Check.due("behind the last of " + marks[n], x.kind(states[n]), Check.NONE);
        }
    }

    private static void unbalancedMarksAreRefused() {
        String[] marks = {"(", ")", ")(", "())", "(()", ".(", ").", "())(", "((((((((", "))))))))",
            "(((()))(", "(.().)).", "()()()()".substring(1)};
        for (String unbalanced : marks) {
            FoldedFamily x = Check.family(2, unbalanced);
            Check.due("build() of " + unbalanced, x.build(), Check.NONE);
            Check.due("kind(0) of " + unbalanced, x.kind(0), Check.NONE);
        }
    }

    private static void hitsGo() {
        FoldedFamily x = Check.built(1, ".");
        Check.feedAll(x, "00");
        Check.due("scan", x.scan(1, -1000), 2);
        Check.due("build() again", x.build(), 7);
        Check.due("hit(0, 0)", x.hit(0, 0), Check.NONE);
        Check.due("derived(0, 0, 0)", x.derived(0, 0, 0), Check.NONE);
        Check.due("scan again", x.scan(1, -1000), 2);
    }

    private static void refusalChangesNothing() {
        FoldedFamily x = Check.family(1, "(.", 1, 2);
        x.feed(0b100111, 3);
        Check.due("build() of (.", x.build(), Check.NONE);
        x.column(')', 3);
        Check.due("build() of (.)", x.build(), 13);
        Check.due("emits(3, 1, 3)", x.emits(3, 1, 3), 7);
        Check.due("feed: the text is still there", x.feed(0, 1), 4);
    }

    /** What an earlier and larger grammar left behind must not show. */
    private static void grammarFollowsTheColumns() {
        FoldedFamily x = Check.built(4, "()()()()", 0, 01111, 02222, 03333, 0, 01111, 02222, 03333);
        x.feed(0b1110010011100100, 8);
        x.value(0, 0, 8);
        x.clear();
        Check.addColumns(x, "()", 02222, 03333);
        Check.due("build() of ()", x.build(), 10);
        FoldedFamily y = Check.built(4, "()", 02222, 03333);
        y.feed(0b1110010011100100, 8);
        for (int v = 0; v < 12; v++) {
            int state = v;
            Check.due("kind(" + v + ")", x.kind(v), y.kind(v));
            Check.due("node(" + v + ")", x.node(v), y.node(v));
            Check.dueRow("targets of " + v,
                    Check.row(k -> x.target(state, k)), Check.row(k -> y.target(state, k)));
            Check.due("emits(" + v + ", 2, 3)", x.emits(v, 2, 3), y.emits(v, 2, 3));
            Check.due("value(" + v + ", 1, 3)", x.value(v, 1, 3), y.value(v, 1, 3));
        }
    }
}
