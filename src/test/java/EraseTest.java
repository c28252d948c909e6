/** Promise 11: erase. */
public final class EraseTest {
    public static void main(String[] args) {
        FoldedFamily x = Check.built(1, "()", 1, 2);
        x.feed(0b1001, 2);
        Check.due("value(3, 0, 2) of 12", x.value(3, 0, 2), x.emits(3, 1, 2) + x.step(3, 2));
        Check.due("scan", x.scan(2, -1000), 1);
        x.erase();
        Check.due("hit(0, 0)", x.hit(0, 0), Check.NONE);
        Check.due("derived(0, 0, 0)", x.derived(0, 0, 0), Check.NONE);
        Check.due("value(0, 0, 1)", x.value(0, 0, 1), Check.NONE);
        Check.due("value(9, 0, 0)", x.value(9, 0, 0), 0);
        Check.due("value(9, 1, 0)", x.value(9, 1, 0), Check.NONE);
        Check.due("kind(3): the grammar stays", x.kind(3), 1);
        Check.due("scan of no text", x.scan(2, -1000), 0);
        Check.due("feed: 2, 1", x.feed(0b0110, 2), 2);
        Check.due("value(3, 0, 2) of 21", x.value(3, 0, 2), x.emits(3, 2, 1) + x.step(3, 2));
        x.erase();
        x.feed(0b1001, 2);
        Check.due("value(3, 0, 2) of 12 again", x.value(3, 0, 2), x.emits(3, 1, 2) + x.step(3, 2));
        x.erase();
        x.erase();
        Check.due("feed after erase of nothing", x.feed(0, 12), 12);
        x.clear();
        x.erase();
        x.column('.', 0);
        Check.due("build(): erase takes no columns", x.build(), 7);
        x.erase();
        Check.due("kind(3) still", x.kind(3), 2);
        Check.end();
    }
}
