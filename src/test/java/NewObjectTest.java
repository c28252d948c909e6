/** Promise 1: the number of rows, and that nothing else is there. */
public final class NewObjectTest {
    public static void main(String[] args) {
        Check.due("NONE", FoldedFamily.NONE, -1000000);
        rowsAreHeldToOneToFour();
        nothingIsThere();
        Check.end();
    }

    /** With n rows that all go from S to ML, that step scores LOG(n + 1, n + 4). */
    private static void rowsAreHeldToOneToFour() {
        int[] asked = {Integer.MIN_VALUE, -1, 0, 1, 2, 3, 4, 5, 9, Integer.MAX_VALUE};
        int[] rows = {1, 1, 1, 1, 2, 3, 4, 4, 4, 4};
        int[] scores = {0, -11, -8, -7, -6};
        for (int n = 0; n < asked.length; n++) {
            FoldedFamily x = Check.built(asked[n], ".");
            Check.due("rows " + asked[n] + ": step(0, 2)", x.step(0, 2), scores[rows[n]]);
        }
    }

    private static void nothingIsThere() {
        FoldedFamily x = new FoldedFamily(2);
        Check.due("kind(0)", x.kind(0), Check.NONE);
        Check.due("node(0)", x.node(0), Check.NONE);
        Check.due("target(0, 0)", x.target(0, 0), Check.NONE);
        Check.due("step(0, 0)", x.step(0, 0), Check.NONE);
        Check.due("emits(0, 0, 0)", x.emits(0, 0, 0), Check.NONE);
        Check.due("value(0, 0, 0)", x.value(0, 0, 0), Check.NONE);
        Check.due("scan(1, 0)", x.scan(1, 0), Check.NONE);
        Check.due("hit(0, 0)", x.hit(0, 0), Check.NONE);
        Check.due("derived(0, 0, 0)", x.derived(0, 0, 0), Check.NONE);
        Check.due("build() of no columns", x.build(), 4);
        Check.due("value(0, 0, 0) in no text", x.value(0, 0, 0), -6);
        Check.due("value(0, 0, 1) in no text", x.value(0, 0, 1), Check.NONE);
        Check.due("scan(12, least) of no text", x.scan(12, Integer.MIN_VALUE), 0);
        Check.due("feed(0, 1)", x.feed(0, 1), 1);
        for (int c = 0; c < 8; c++) {
            Check.due("column " + c, x.column('.', 0), true);
        }
        Check.due("column 8", x.column('.', 0), false);
    }
}
