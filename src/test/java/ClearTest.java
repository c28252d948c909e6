/** Promise 3: clear. */
public final class ClearTest {
    public static void main(String[] args) {
        FoldedFamily x = Check.built(2, "(.)", 011, 022, 033);
        Check.feedAll(x, "123");
        Check.due("scan", x.scan(3, -1000), 1);
        x.clear();
        Check.due("kind(0)", x.kind(0), Check.NONE);
        Check.due("node(0)", x.node(0), Check.NONE);
        Check.due("target(0, 0)", x.target(0, 0), Check.NONE);
        Check.due("value(0, 0, 0)", x.value(0, 0, 0), Check.NONE);
        Check.due("scan", x.scan(3, -1000), Check.NONE);
        Check.due("hit(0, 0)", x.hit(0, 0), Check.NONE);
        Check.due("derived(0, 0, 0)", x.derived(0, 0, 0), Check.NONE);
        Check.due("feed: the text is still there", x.feed(0, 1), 4);
        Check.due("build() of no columns", x.build(), 4);
        Check.due("step(0, 2): the rows are still two", x.step(0, 2), -6);
        x.clear();
        x.clear();
        Check.due("kind(0) after clear of nothing", x.kind(0), Check.NONE);
        oldLettersAreGone();
        openMarksAreGone();
        Check.end();
    }

    private static void oldLettersAreGone() {
        FoldedFamily x = Check.family(4, ".", 00000);
        x.clear();
        x.column('.', 01111);
        x.build();
        Check.due("emits(3, 0, 0)", x.emits(3, 0, 0), -8);
        Check.due("emits(3, 1, 0)", x.emits(3, 1, 0), 10);
    }

    private static void openMarksAreGone() {
        FoldedFamily x = Check.family(1, "((.");
        Check.due("build() of ((.", x.build(), Check.NONE);
        x.clear();
        Check.addColumns(x, ".");
        Check.due("build() of .", x.build(), 7);
    }
}
