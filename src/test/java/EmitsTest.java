/** Promise 9: the scores of letters. */
public final class EmitsTest {
    public static void main(String[] args) {
        pairs();
        singleLettersOfBoth();
        lettersOfLeftAndRight();
        insertsEmitAnyLetter();
        othersEmitNone();
        wrongInputsAreRefused();
        Check.end();
    }

    /** Four rows with 0 and 3: LOG(80, 20) and LOG(16, 20). Then three alike and one other. */
    private static void pairs() {
        FoldedFamily x = Check.built(4, "()", 0, 03333);
        Check.due("emits(3, 0, 3)", x.emits(3, 0, 3), 16);
        Check.due("emits(3, 3, 0)", x.emits(3, 3, 0), -3);
        Check.due("emits(3, 0, 0)", x.emits(3, 0, 0), -3);
        x = Check.built(4, "()", 01222, 02111);
        Check.due("three rows: emits(3, 2, 1)", x.emits(3, 2, 1), 13);
        Check.due("one row: emits(3, 1, 2)", x.emits(3, 1, 2), 5);
        Check.due("no row: emits(3, 1, 1)", x.emits(3, 1, 1), -3);
        Check.due("no row: emits(3, 2, 2)", x.emits(3, 2, 2), -3);
    }

    /** Row 0 has 1 and 2, row 1 has 3 on the left alone, row 2 has 0 on the right alone. */
    private static void singleLettersOfBoth() {
        FoldedFamily x = Check.built(4, "()", 04431, 04042);
        Check.due("MP: emits(3, 1, 2)", x.emits(3, 1, 2), 7);
        Check.due("MP: emits(3, 0, 0)", x.emits(3, 0, 0), -1);
        Check.due("ML: emits(4, 3, 0)", x.emits(4, 3, 0), 5);
        Check.due("ML: emits(4, 1, 0)", x.emits(4, 1, 0), -3);
        Check.due("MR: emits(5, 0, 0)", x.emits(5, 0, 0), 5);
        Check.due("MR: emits(5, 2, 0)", x.emits(5, 2, 0), -3);
    }

    private static void lettersOfLeftAndRight() {
        FoldedFamily x = Check.built(4, ".().", 00111, 0, 0, 04322);
        Check.due("ML: emits(3, 1, 0)", x.emits(3, 1, 0), 8);
        Check.due("ML: emits(3, 0, 0)", x.emits(3, 0, 0), 0);
        Check.due("ML: emits(3, 2, 0)", x.emits(3, 2, 0), -8);
        Check.due("MR: emits(6, 2, 0)", x.emits(6, 2, 0), 6);
        Check.due("MR: emits(6, 3, 0)", x.emits(6, 3, 0), 1);
        Check.due("MR: emits(6, 0, 0)", x.emits(6, 0, 0), -7);
    }

    private static void insertsEmitAnyLetter() {
        FoldedFamily x = Check.built(2, "()()");
        for (int v : new int[] {1, 2, 9, 10, 13, 18, 19}) {
            for (int a = 0; a < 4; a++) {
                Check.due("emits(" + v + ", " + a + ", 0)", x.emits(v, a, 0), 0);
            }
            Check.due("emits(" + v + ", 4, 0)", x.emits(v, 4, 0), Check.NONE);
            Check.due("emits(" + v + ", -1, 0)", x.emits(v, -1, 0), Check.NONE);
        }
    }

    private static void othersEmitNone() {
        FoldedFamily x = Check.built(2, "()()");
        for (int v : new int[] {0, 3, 4, 8, 11, 12, 17, 20}) {
            for (int a = -1; a < 5; a++) {
                Check.due("emits(" + v + ", " + a + ", 0)", x.emits(v, a, 0), Check.NONE);
            }
        }
    }

    private static void wrongInputsAreRefused() {
        FoldedFamily x = Check.built(1, "()");
        int[] noLetters = {-1, 4, 5, 16, -4, Integer.MIN_VALUE, Integer.MAX_VALUE};
        for (int no : noLetters) {
            Check.due("MP: emits(3, " + no + ", 0)", x.emits(3, no, 0), Check.NONE);
            Check.due("MP: emits(3, 0, " + no + ")", x.emits(3, 0, no), Check.NONE);
            Check.due("ML: emits(4, " + no + ", 0)", x.emits(4, no, 0), Check.NONE);
            Check.due("ML: b means nothing: " + no, x.emits(4, 0, no), 0);
            Check.due("MR: b means nothing: " + no, x.emits(5, 0, no), 0);
            Check.due("IL: b means nothing: " + no, x.emits(7, 0, no), 0);
        }
        for (int v : new int[] {-1, 10, 43, Integer.MIN_VALUE, Integer.MAX_VALUE}) {
            Check.due("emits(" + v + ", 0, 0)", x.emits(v, 0, 0), Check.NONE);
        }
        x.clear();
        Check.due("emits(3, 0, 0) without a grammar", x.emits(3, 0, 0), Check.NONE);
    }
}
