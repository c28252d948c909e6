/** Promise 3: clear. */
public final class ClearTest {
    public static void main(String[] args) {
        columnsGo();
        lettersAndMarksGo();
        grammarGoes();
        hitsGo();
        textAndRowsStay();
        clearOfNothing();
        Check.end();
    }

    private static FoldedFamily withHits() {
        FoldedFamily x = Check.built(2, "(.)", 011, 022, 033);
        Check.feedAll(x, "123");
        Check.due("scan(3, -1000)", x.scan(3, -1000), 1);
        return x;
    }

    private static void columnsGo() {
        Check.sentence("3: Takes all columns away");
        String eight = "(()())..";
        for (int columns = 0; columns <= 8; columns++) {
            FoldedFamily x = Check.family(1, eight.substring(0, columns));
            x.clear();
            Check.due("build() after clear of " + columns, x.build(), 4);
            for (int c = 0; c < 8; c++) {
                Check.due("column " + c + " after clear of " + columns, x.column('.', 0), true);
            }
            Check.due("column 8 after clear of " + columns, x.column('.', 0), false);
        }
    }

    private static void lettersAndMarksGo() {
        Check.sentence("3: of the columns that were there nothing stays");
        FoldedFamily x = Check.family(4, ".", 0);
        x.clear();
        x.column('.', 01111);
        x.build();
        Check.due("emits(3, 0, 0)", x.emits(3, 0, 0), -8);
        Check.due("emits(3, 1, 0)", x.emits(3, 1, 0), 10);
        x = Check.family(1, "((.");
        Check.dueNone("build() of ((.", x.build());
        x.clear();
        x.column('.', 0);
        Check.due("build() of .", x.build(), 7);
    }

    private static void grammarGoes() {
        Check.sentence("3: there is no grammar any more");
        FoldedFamily x = withHits();
        x.clear();
        Check.dueNoGrammar(x);
    }

    private static void hitsGo() {
        Check.sentence("3: and no hit any more");
        FoldedFamily x = withHits();
        Check.due("hit(0, 0)", x.hit(0, 0), 0);
        x.clear();
        Check.dueNoHits(x);
        x.build();
        Check.dueNoHits(x);
    }

    private static void textAndRowsStay() {
        Check.sentence("3: clear takes no text and no rows");
        FoldedFamily x = withHits();
        x.clear();
        Check.due("feed(0, 1)", x.feed(0, 1), 4);
        x.build();
        Check.due("step(0, 2) of two rows", x.step(0, 2), -6);
    }

    private static void clearOfNothing() {
        Check.sentence("3: clear where no columns are");
        FoldedFamily x = Check.built(2, "");
        Check.feedAll(x, "0");
        x.scan(1, -1000);
        x.clear();
        Check.dueNoGrammar(x);
        Check.dueNoHits(x);
        x.clear();
        Check.dueNoGrammar(x);
        Check.due("build()", x.build(), 4);
    }
}
