/** Promise 1: the number of rows, and that nothing else is there. */
public final class NewObjectTest {
    /** With n rows that all go from S to ML, that step scores LOG(n + 1, n + 4). */
    private static final int[] SCORE_OF_ROWS = {0, -11, -8, -7, -6};

    public static void main(String[] args) {
        Check.sentence("public static final int NONE = -1000000");
        Check.due("NONE", FoldedFamily.NONE, -1000000);
        soManyRows();
        noColumns();
        noGrammar();
        noText();
        noHits();
        Check.end();
    }

    private static void soManyRows() {
        Check.sentence("1: So many rows");
        dueRows(1, 1);
        dueRows(2, 2);
        dueRows(3, 3);
        dueRows(4, 4);
        Check.sentence("1: 1 when rows is below 1");
        for (int rows : new int[] {0, -1, -2, -4, -256, Integer.MIN_VALUE, Integer.MIN_VALUE + 2}) {
            dueRows(rows, 1);
        }
        Check.sentence("1: 4 when it is above 4");
        for (int rows : new int[] {5, 6, 8, 257, 65538, Integer.MAX_VALUE - 1, Integer.MAX_VALUE}) {
            dueRows(rows, 4);
        }
    }

    private static void dueRows(int asked, int rows) {
        FoldedFamily x = Check.built(asked, ".");
        Check.due("rows " + asked + ": step(0, 2)", x.step(0, 2), SCORE_OF_ROWS[rows]);
        x = Check.built(asked, "()");
        int none = PlainFamily.log(16, rows + 16);
        int all = PlainFamily.log(16 * (rows + 1), rows + 16);
        Check.due("rows " + asked + ": emits(3, 0, 0)", x.emits(3, 0, 0), all);
        Check.due("rows " + asked + ": emits(3, 1, 0)", x.emits(3, 1, 0), none);
    }

    private static void noColumns() {
        Check.sentence("1: no columns");
        for (int rows = 0; rows <= 5; rows++) {
            Check.due("build() of no columns", new FoldedFamily(rows).build(), 4);
        }
        FoldedFamily x = new FoldedFamily(2);
        for (int c = 0; c < 8; c++) {
            Check.due("column " + c, x.column('.', 0), true);
        }
        Check.due("column 8", x.column('.', 0), false);
    }

    private static void noGrammar() {
        Check.sentence("1: no grammar");
        Check.dueNoGrammar(new FoldedFamily(2));
    }

    private static void noText() {
        Check.sentence("1: no text");
        FoldedFamily x = Check.built(2, "");
        Check.due("value(0, 0, 0), the empty part", x.value(0, 0, 0), -6);
        Check.dueNone("value(0, 0, 1)", x.value(0, 0, 1));
        Check.dueNone("value(0, 1, 0)", x.value(0, 1, 0));
        Check.due("scan(12, least)", x.scan(12, Integer.MIN_VALUE), 0);
        Check.due("feed(0, 1)", x.feed(0, 1), 1);
    }

    private static void noHits() {
        Check.sentence("1: no hits");
        Check.dueNoHits(new FoldedFamily(2));
    }
}
