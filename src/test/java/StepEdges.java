/** What target and step have in common: NONE where a state has no such target. */
final class StepEdges {
    interface Call {
        int answer(FoldedFamily x, int v, int k);
    }

    /** How many targets the states of ()() have. */
    private static final int[] COUNTS = {
        3, 3, 2, 2, 4, 3, 3, 3, 3, 3, 2, 0, 5, 5, 3, 3, 3, 3, 3, 2, 0};

    private StepEdges() {
    }

    static void due(String promise, String name, Call call) {
        Check.sentence(promise + ": NONE when there is none");
        FoldedFamily x = Check.built(1, "()()");
        for (int v = 0; v < COUNTS.length; v++) {
            dueThere(name + "(" + v + ", -1)", call.answer(x, v, -1), false);
            dueThere(name + "(" + v + ", 0)", call.answer(x, v, 0), COUNTS[v] > 0);
            dueThere("last " + name + " of " + v, call.answer(x, v, COUNTS[v] - 1), COUNTS[v] > 0);
            dueThere("behind it", call.answer(x, v, COUNTS[v]), false);
        }
        for (int v : new int[] {0, 3, 11, 12, 20}) {
            for (int k : Check.outside(4)) {
                dueThere(name + "(" + v + ", " + k + ")", call.answer(x, v, k), false);
            }
        }
        x = Check.built(1, "()");
        dueThere("the last of the most", call.answer(x, 0, 5), true);
        dueThere("behind the most", call.answer(x, 0, 6), false);
    }

    private static void dueThere(String name, int answer, boolean there) {
        Check.due(name + " is there", answer != Check.NONE, there);
    }
}
