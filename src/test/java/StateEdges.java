/** What the calls that name a state have in common: NONE where there is no such state. */
final class StateEdges {
    interface Call {
        int answer(FoldedFamily x, int v);
    }

    private final String promise;
    private final String name;
    private final Call call;

    private StateEdges(String promise, String name, Call call) {
        this.promise = promise;
        this.name = name;
        this.call = call;
    }

    /** The call answers something of state 1, the IL of ROOT, and a text of two letters. */
    static void due(String promise, String name, Call call) {
        StateEdges edges = new StateEdges(promise, name, call);
        edges.noSuchState();
        edges.noGrammar();
    }

    private void dueThere(FoldedFamily x, int v, String when, boolean there) {
        Check.due(name + " of state " + v + " " + when + " is there",
                call.answer(x, v) != Check.NONE, there);
    }

    private void noSuchState() {
        Check.sentence(promise + ": NONE when there is no such state");
        for (String marks : new String[] {"", ".", "()", "()()()()"}) {
            FoldedFamily x = Check.family(1, marks);
            int states = x.build();
            x.feed(0, 2);
            dueThere(x, 1, "of " + marks, true);
            for (int v : Check.outside(states - 1)) {
                dueThere(x, v, "of " + marks, false);
            }
            x.clear();
            x.build();
            dueThere(x, 1, "of no columns", true);
            for (int v = 4; v <= states; v++) {
                dueThere(x, v, "of " + marks + " that went", false);
            }
        }
    }

    private void noGrammar() {
        Check.sentence(promise + ": NONE when there is no grammar");
        FoldedFamily x = Check.family(1, "(");
        x.feed(0, 2);
        dueNoStates(x, "before build");
        x.build();
        dueNoStates(x, "after a refused build");
        x.column(')', 0);
        dueNoStates(x, "before the second build");
        x.build();
        dueThere(x, 1, "of ()", true);
        x.column('.', 0);
        dueNoStates(x, "after column");
        x.build();
        dueThere(x, 1, "of ().", true);
        x.clear();
        dueNoStates(x, "after clear");
    }

    private void dueNoStates(FoldedFamily x, String when) {
        for (int v = -1; v <= 13; v++) {
            dueThere(x, v, when, false);
        }
    }
}
