/** Promise 9: the scores of letters. */
public final class EmitsTest {
    /** The states of ()() that emit letters, MP but for these, and those that emit none. */
    private static final int[] PAIRS = {5, 14};
    private static final int[] SINGLES = {1, 2, 6, 7, 9, 10, 13, 15, 16, 18, 19};
    private static final int[] SILENT = {0, 3, 4, 8, 11, 12, 17, 20};

    public static void main(String[] args) {
        pairs();
        singleLettersOfBoth();
        lettersOfLeftAndRight();
        StateEdges.due("9", "letter 0", (x, v) -> x.emits(v, 0, 0));
        othersEmitNone();
        noLetters();
        secondLetterMeansNothing();
        Check.end();
    }

    /** Four rows with 0 and 3: LOG(80, 20) and LOG(16, 20). Then three alike and one other. */
    private static void pairs() {
        Check.sentence("9: The score with which state v emits a and b (MP)");
        FoldedFamily x = Check.built(4, "()", 0, 03333);
        Check.due("emits(3, 0, 3)", x.emits(3, 0, 3), 16);
        Check.due("emits(3, 3, 0)", x.emits(3, 3, 0), -3);
        Check.due("emits(3, 0, 0)", x.emits(3, 0, 0), -3);
        x = Check.built(4, "()", 01222, 02111);
        Check.due("three rows: emits(3, 2, 1)", x.emits(3, 2, 1), 13);
        Check.due("one row: emits(3, 1, 2)", x.emits(3, 1, 2), 5);
        Check.due("no row: emits(3, 1, 1)", x.emits(3, 1, 1), -3);
        Check.due("no row: emits(3, 2, 2)", x.emits(3, 2, 2), -3);
    }

    /** Row 0 has 1 and 2, row 1 has 3 on the left alone, row 2 has 0 on the right alone. */
    private static void singleLettersOfBoth() {
        Check.sentence("9: The score with which state v emits the letter a");
        FoldedFamily x = Check.built(4, "()", 04431, 04042);
        Check.due("MP: emits(3, 1, 2)", x.emits(3, 1, 2), 7);
        Check.due("MP: emits(3, 0, 0)", x.emits(3, 0, 0), -1);
        Check.due("ML: emits(4, 3, 0)", x.emits(4, 3, 0), 5);
        Check.due("ML: emits(4, 1, 0)", x.emits(4, 1, 0), -3);
        Check.due("MR: emits(5, 0, 0)", x.emits(5, 0, 0), 5);
        Check.due("MR: emits(5, 2, 0)", x.emits(5, 2, 0), -3);
    }

    private static void lettersOfLeftAndRight() {
        FoldedFamily x = Check.built(4, ".().", 00111, 0, 0, 04322);
        Check.due("ML: emits(3, 1, 0)", x.emits(3, 1, 0), 8);
        Check.due("ML: emits(3, 0, 0)", x.emits(3, 0, 0), 0);
        Check.due("ML: emits(3, 2, 0)", x.emits(3, 2, 0), -8);
        Check.due("MR: emits(6, 2, 0)", x.emits(6, 2, 0), 6);
        Check.due("MR: emits(6, 3, 0)", x.emits(6, 3, 0), 1);
        Check.due("MR: emits(6, 0, 0)", x.emits(6, 0, 0), -7);
    }

    private static void othersEmitNone() {
        Check.sentence("9: NONE when it emits none");
        FoldedFamily x = Check.built(2, "()()");
        for (int v : SILENT) {
            for (int a = -1; a < 5; a++) {
                Check.dueNone("emits(" + v + ", " + a + ", 0)", x.emits(v, a, 0));
                Check.dueNone("emits(" + v + ", " + a + ", 3)", x.emits(v, a, 3));
            }
        }
        x = Check.built(2, ".()");
        Check.dueNone("D of LEFT", x.emits(4, 0, 0));
        x = Check.built(2, "().");
        Check.dueNone("D of RIGHT", x.emits(4, 0, 0));
    }

    private static void noLetters() {
        Check.sentence("9: NONE when a is no letter");
        FoldedFamily x = Check.built(2, "()()");
        for (int no : Check.outside(3)) {
            for (int v : SINGLES) {
                Check.dueNone("emits(" + v + ", " + no + ", 0)", x.emits(v, no, 0));
            }
            for (int v : PAIRS) {
                Check.dueNone("emits(" + v + ", " + no + ", 0)", x.emits(v, no, 0));
            }
        }
        Check.sentence("9: NONE when (MP) b is no letter");
        for (int v : PAIRS) {
            for (int no : Check.outside(3)) {
                Check.dueNone("emits(" + v + ", 0, " + no + ")", x.emits(v, 0, no));
                Check.dueNone("emits(" + v + ", " + no + ", " + no + ")", x.emits(v, no, no));
            }
            Check.due("emits(" + v + ", 3, 3)", x.emits(v, 3, 3), -2);
            Check.due("emits(" + v + ", 0, 0)", x.emits(v, 0, 0), 11);
        }
    }

    private static void secondLetterMeansNothing() {
        Check.sentence("9: But for MP b means nothing");
        FoldedFamily x = Check.built(2, "()()", 040, 004, 013, 044);
        for (int v : SINGLES) {
            for (int a : new int[] {0, 3}) {
                int score = x.emits(v, a, 0);
                Check.due("emits(" + v + ", " + a + ", 0) is there", score != Check.NONE, true);
                for (int b : new int[] {1, 3, 4, -1, 16, Integer.MIN_VALUE, Integer.MAX_VALUE}) {
                    Check.due("emits(" + v + ", " + a + ", " + b + ")", x.emits(v, a, b), score);
                }
            }
        }
    }
}
