/** Promise 4: build answers the number of states and refuses marks that are not balanced. */
public final class BuildTest {
    public static void main(String[] args) {
        statesAreCounted();
        grammarFollowsTheColumns();
        hitsGo();
        textStays();
        unbalancedMarksAreRefused();
        refusalChangesNothing();
        Check.end();
    }

    private static void statesAreCounted() {
        Check.sentence("4: Answers the number of states");
        String[] marks = {
            "", ".", "..", "()", ".()", "().", ".().", "(.)", "(())", "()()", "(()())",
            "((.)())", "()()()", "()()()()", "........", "(((())))", "().()", "(.).(.)."};
        int[] states = {
            4, 7, 10, 10, 13, 13, 16, 13, 16, 21, 27,
            30, 32, 43, 28, 28, 24, 33};
        for (int n = 0; n < marks.length; n++) {
            FoldedFamily x = Check.family(3, marks[n]);
            Check.due("build() of " + marks[n], x.build(), states[n]);
            Check.due("last state of " + marks[n], x.kind(states[n] - 1), 8);
            Check.dueNone("behind the last of " + marks[n], x.kind(states[n]));
        }
    }

    /** What an earlier and larger grammar left behind must not show. */
    private static void grammarFollowsTheColumns() {
        Check.sentence("4: Makes the grammar of the columns as they are");
        FoldedFamily x = Check.built(4, "()()()()", 0, 01111, 02222, 03333, 0, 01111, 02222, 03333);
        x.feed(0b1110010011100100, 8);
        x.value(0, 0, 8);
        x.clear();
        Check.addColumns(x, "()", 02222, 03333);
        Check.due("build() of ()", x.build(), 10);
        FoldedFamily y = Check.built(4, "()", 02222, 03333);
        y.feed(0b1110010011100100, 8);
        for (int v = 0; v < 12; v++) {
            int state = v;
            Check.due("kind(" + v + ")", x.kind(v), y.kind(v));
            Check.due("node(" + v + ")", x.node(v), y.node(v));
            Check.dueRow("targets of " + v,
                    Check.row(k -> x.target(state, k)), Check.row(k -> y.target(state, k)));
            Check.due("emits(" + v + ", 2, 3)", x.emits(v, 2, 3), y.emits(v, 2, 3));
            Check.due("value(" + v + ", 1, 3)", x.value(v, 1, 3), y.value(v, 1, 3));
        }
        x.column('.', 0);
        Check.due("build() of ().", x.build(), 13);
        Check.due("build() of the same", x.build(), 13);
        Check.due("kind(3) of ().", x.kind(3), 3);
    }

    private static void hitsGo() {
        Check.sentence("4: there is no hit any more");
        FoldedFamily x = Check.built(1, ".");
        Check.feedAll(x, "00");
        Check.due("scan", x.scan(1, -1000), 2);
        Check.due("build() again", x.build(), 7);
        Check.dueNoHits(x);
        Check.due("scan again", x.scan(1, -1000), 2);
    }

    private static void textStays() {
        Check.sentence("4: build takes no text");
        FoldedFamily x = Check.family(1, ".");
        x.feed(0, 12);
        x.build();
        Check.due("feed(0, 12)", x.feed(0, 12), 24);
        x.build();
        Check.dueNone("feed(0, 1)", x.feed(0, 1));
    }

    private static void unbalancedMarksAreRefused() {
        Check.sentence("4: refused, NONE, when the marks are not balanced");
        String[] marks = {"(", ")", ")(", "())", "(()", ".(", ").", "())(", "((((((((", "))))))))",
            "(((()))(", "(.().)).", ")()()()", "()()()(", ".......(", ")......."};
        for (String unbalanced : marks) {
            FoldedFamily x = Check.family(2, unbalanced);
            Check.dueNone("build() of " + unbalanced, x.build());
            Check.dueNone("build() of " + unbalanced + " again", x.build());
            Check.dueNoGrammar(x);
        }
    }

    private static void refusalChangesNothing() {
        Check.sentence("4: a refused build changes nothing");
        FoldedFamily x = Check.family(1, "(.", 1, 2);
        x.feed(0b100111, 3);
        Check.dueNone("build() of (.", x.build());
        x.column(')', 3);
        Check.due("build() of (.)", x.build(), 13);
        Check.due("emits(3, 1, 3)", x.emits(3, 1, 3), 7);
        Check.due("feed: the text is still there", x.feed(0, 1), 4);
    }
}
