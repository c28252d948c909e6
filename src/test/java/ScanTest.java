/** Promise 13: scan finds the hits in their order and answers how many there are. */
public final class ScanTest {
    private static final String ALL = "1-2:-11 3-4:-11 0-1:-19 2-3:-19";

    public static void main(String[] args) {
        hitsAreCounted();
        mostAndFewestHits();
        laterScansReplaceEarlierOnes();
        nothingElseChanges();
        noGrammar();
        wrongWidthsAreRefused();
        refusalChangesNothing();
        Check.end();
    }

    /** One row with a 2: a 2 alone scores -11, another letter alone -19. */
    private static FoldedFamily withText() {
        FoldedFamily x = Check.built(1, ".", 2);
        Check.feedAll(x, "0212");
        return x;
    }

    private static void hitsAreCounted() {
        Check.sentence("13: Finds the hits. Answers how many");
        FoldedFamily x = withText();
        Check.due("scan(1, -1000)", x.scan(1, -1000), 4);
        Check.dueRow("hits", Check.hits(x), ALL);
        Check.due("scan(12, -1000), wider than the text", x.scan(12, -1000), 4);
        Check.dueRow("hits", Check.hits(x), ALL);
    }

    private static void mostAndFewestHits() {
        Check.sentence("13: Answers how many: none, and as many as there are letters");
        FoldedFamily x = Check.built(1, "");
        Check.due("scan of no text", x.scan(12, Integer.MIN_VALUE), 0);
        Check.dueNone("hit(0, 0) of no text", x.hit(0, 0));
        x.feed(0, 12);
        x.feed(0, 12);
        Check.due("scan that no window meets", x.scan(12, Integer.MAX_VALUE), 0);
        Check.dueNone("hit(0, 0)", x.hit(0, 0));
        Check.due("scan(1, least)", x.scan(1, Integer.MIN_VALUE), 24);
        Check.due("hit(23, 0)", x.hit(23, 0), 23);
        Check.dueNone("hit(24, 0)", x.hit(24, 0));
        Check.due("scan(12, least)", x.scan(12, Integer.MIN_VALUE), 24);
        Check.due("hit(23, 0)", x.hit(23, 0), 23);
    }

    private static void laterScansReplaceEarlierOnes() {
        Check.sentence("13: the hits are those of the latest scan");
        FoldedFamily x = withText();
        x.scan(1, -1000);
        Check.due("scan(1, -11)", x.scan(1, -11), 2);
        Check.dueNone("hit(2, 0)", x.hit(2, 0));
        Check.due("scan(1, 5)", x.scan(1, 5), 0);
        Check.dueNone("hit(0, 0)", x.hit(0, 0));
        Check.due("scan(1, -19)", x.scan(1, -19), 4);
        Check.dueRow("hits", Check.hits(x), ALL);
    }

    private static void nothingElseChanges() {
        Check.sentence("13: scan takes no columns, no grammar and no text");
        FoldedFamily x = withText();
        x.scan(12, -1000);
        Check.due("kind(3)", x.kind(3), 2);
        Check.due("value(3, 1, 1)", x.value(3, 1, 1), 0);
        Check.due("feed(0, 1)", x.feed(0, 1), 5);
        Check.due("build()", x.build(), 7);
    }

    private static void noGrammar() {
        Check.sentence("13: refused, NONE, when there is no grammar");
        FoldedFamily x = Check.family(1, "(");
        x.feed(0, 4);
        Check.dueNone("scan before build", x.scan(1, -1000));
        x.build();
        Check.dueNone("scan after a refused build", x.scan(1, -1000));
        x.column(')', 0);
        Check.dueNone("scan before the second build", x.scan(1, -1000));
        x.build();
        Check.due("scan", x.scan(1, -1000), 4);
        x.column('.', 0);
        Check.dueNone("scan after column", x.scan(1, -1000));
        Check.dueNone("hit(0, 0)", x.hit(0, 0));
        x.build();
        x.clear();
        Check.dueNone("scan after clear", x.scan(1, -1000));
        Check.dueNone("scan(0, 0), no width either", x.scan(0, 0));
    }

    private static void wrongWidthsAreRefused() {
        Check.sentence("13: refused, NONE, when width is not 1 .. 12");
        FoldedFamily x = withText();
        Check.dueNone("scan(0, -1000)", x.scan(0, -1000));
        for (int width : Check.outside(12)) {
            Check.dueNone("scan(" + width + ", -1000)", x.scan(width, -1000));
        }
        for (int width = 1; width <= 12; width++) {
            Check.due("scan(" + width + ", -1000)", x.scan(width, -1000), 4);
        }
        x.erase();
        Check.dueNone("scan(0, -1000) of no text", x.scan(0, -1000));
        Check.dueNone("scan(13, -1000) of no text", x.scan(13, -1000));
        Check.due("scan(1, -1000) of no text", x.scan(1, -1000), 0);
    }

    private static void refusalChangesNothing() {
        Check.sentence("13: a refused scan changes nothing");
        FoldedFamily x = withText();
        x.scan(1, -1000);
        for (int width : new int[] {0, 13, -1, Integer.MIN_VALUE, Integer.MAX_VALUE}) {
            Check.dueNone("scan(" + width + ", -11)", x.scan(width, -11));
            Check.dueRow("hits stay", Check.hits(x), ALL);
            Check.dueRow("hit 3 stays", Check.derivation(x, 3), "0@2+1 3@2+1 6@3+0");
        }
    }
}
