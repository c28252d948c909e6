/** Promise 11: erase. */
public final class EraseTest {
    public static void main(String[] args) {
        textIsEmpty();
        otherTextsFollow();
        hitsGo();
        grammarStays();
        eraseOfNothing();
        Check.end();
    }

    private static FoldedFamily withHits() {
        FoldedFamily x = Check.built(1, "()", 1, 2);
        x.feed(0b1001, 2);
        Check.due("scan", x.scan(2, -1000), 1);
        return x;
    }

    private static void textIsEmpty() {
        Check.sentence("11: The text is empty then");
        FoldedFamily x = withHits();
        x.erase();
        Check.dueNone("value(0, 0, 1)", x.value(0, 0, 1));
        Check.dueNone("value(9, 1, 0)", x.value(9, 1, 0));
        Check.due("value(9, 0, 0)", x.value(9, 0, 0), 0);
        Check.due("scan of no text", x.scan(2, -1000), 0);
        Check.due("feed", x.feed(0, 12), 12);
        Check.due("feed", x.feed(0, 12), 24);
        x.erase();
        Check.due("feed after erase of a full text", x.feed(0, 12), 12);
        Check.due("feed", x.feed(0, 12), 24);
    }

    private static void otherTextsFollow() {
        Check.sentence("11: of the text that was there nothing stays");
        FoldedFamily x = withHits();
        int step = x.step(3, 2);
        Check.due("value(3, 0, 2) of 12", x.value(3, 0, 2), x.emits(3, 1, 2) + step);
        x.erase();
        Check.due("feed: 2, 1", x.feed(0b0110, 2), 2);
        Check.due("value(3, 0, 2) of 21", x.value(3, 0, 2), x.emits(3, 2, 1) + step);
        x.erase();
        x.feed(0b1001, 2);
        Check.due("value(3, 0, 2) of 12 again", x.value(3, 0, 2), x.emits(3, 1, 2) + step);
    }

    private static void hitsGo() {
        Check.sentence("11: there is no hit any more");
        FoldedFamily x = withHits();
        Check.due("hit(0, 0)", x.hit(0, 0), 0);
        x.erase();
        Check.dueNoHits(x);
    }

    private static void grammarStays() {
        Check.sentence("11: erase takes no grammar and no columns");
        FoldedFamily x = withHits();
        x.erase();
        Check.due("kind(3)", x.kind(3), 1);
        Check.due("emits(3, 1, 2)", x.emits(3, 1, 2), 7);
        Check.due("build()", x.build(), 10);
    }

    private static void eraseOfNothing() {
        Check.sentence("11: erase where no text is");
        FoldedFamily x = new FoldedFamily(1);
        x.erase();
        x.erase();
        Check.due("feed after erase of nothing", x.feed(0, 12), 12);
        x.erase();
        x.column('.', 0);
        x.build();
        x.erase();
        Check.due("kind(3)", x.kind(3), 2);
        Check.due("scan of no text", x.scan(1, -1000), 0);
    }
}
