import java.util.function.Supplier;

/** A call that is refused (NONE, false) changes nothing: an object with and one without it agree. */
public final class RefusalTest {
    private interface Call {
        boolean isRefused(FoldedFamily x);
    }

    public static void main(String[] args) {
        refusedColumns();
        refusedBuilds();
        refusedFeeds();
        refusedScans();
        refusedQuestions();
        Check.end();
    }

    private static FoldedFamily scanned() {
        FoldedFamily x = Check.built(2, "(.)", 01, 011, 042);
        Check.feedAll(x, "0120");
        x.scan(3, -1000);
        return x;
    }

    private static FoldedFamily fullOfColumns() {
        FoldedFamily x = Check.built(1, "........", 0, 1, 2, 3, 4);
        Check.feedAll(x, "01");
        x.scan(1, -1000);
        return x;
    }

    private static FoldedFamily fullOfText() {
        FoldedFamily x = Check.built(2, ".", 013);
        x.feed(0b111001001110010011100100, 12);
        x.feed(0b001101001110010011100100, 12);
        x.scan(2, -30);
        return x;
    }

    private static FoldedFamily nearlyFullOfText() {
        FoldedFamily x = Check.built(1, ".", 2);
        x.feed(0b111001001110010011100100, 12);
        x.feed(0b111001001110010011100100, 10);
        x.scan(1, -1000);
        return x;
    }

    private static FoldedFamily unbalanced() {
        FoldedFamily x = Check.family(3, "(.", 0, 0123);
        x.feed(0b1001, 2);
        return x;
    }

    private static FoldedFamily empty() {
        return new FoldedFamily(3);
    }

    private static void refusedColumns() {
        Check.sentence("A call that is refused changes nothing: column");
        for (char mark : new char[] {'x', '[', 0, Character.MAX_VALUE}) {
            dueNoChange("column(" + mark + ")", x -> !x.column(mark, 0123), RefusalTest::scanned);
            dueNoChange("column(" + mark + ")", x -> !x.column(mark, 0123), RefusalTest::empty);
        }
        for (char mark : new char[] {'.', '(', ')', 'x'}) {
            dueNoChange("column 8", x -> !x.column(mark, 0123), RefusalTest::fullOfColumns);
        }
    }

    private static void refusedBuilds() {
        Check.sentence("A call that is refused changes nothing: build");
        dueNoChange("build()", x -> isNone(x.build()), RefusalTest::unbalanced);
    }

    private static void refusedFeeds() {
        Check.sentence("A call that is refused changes nothing: feed");
        for (int n : new int[] {0, -1, 13, Integer.MIN_VALUE, Integer.MAX_VALUE}) {
            dueNoChange("feed(-1, " + n + ")", x -> isNone(x.feed(-1, n)), RefusalTest::scanned);
            dueNoChange("feed(-1, " + n + ")", x -> isNone(x.feed(-1, n)), RefusalTest::empty);
        }
        for (int n : new int[] {1, 12}) {
            dueNoChange("feed(-1, " + n + ")", x -> isNone(x.feed(-1, n)), RefusalTest::fullOfText);
        }
        for (int n : new int[] {3, 12}) {
            dueNoChange("feed(-1, " + n + ")", x -> isNone(x.feed(-1, n)),
                    RefusalTest::nearlyFullOfText);
        }
    }

    private static void refusedScans() {
        Check.sentence("A call that is refused changes nothing: scan");
        for (int width : new int[] {0, -1, 13, Integer.MIN_VALUE, Integer.MAX_VALUE}) {
            dueNoChange("scan(" + width + ", 0)", x -> isNone(x.scan(width, 0)), RefusalTest::scanned);
            dueNoChange("scan(" + width + ", 0)", x -> isNone(x.scan(width, 0)),
                    RefusalTest::fullOfText);
        }
        dueNoChange("scan(1, 0)", x -> isNone(x.scan(1, 0)), RefusalTest::unbalanced);
        dueNoChange("scan(1, 0)", x -> isNone(x.scan(1, 0)), RefusalTest::empty);
    }

    private static void refusedQuestions() {
        Check.sentence("A call that is refused changes nothing: the others");
        dueNoChange("kind(-1)", x -> isNone(x.kind(-1)), RefusalTest::scanned);
        dueNoChange("node(43)", x -> isNone(x.node(43)), RefusalTest::scanned);
        dueNoChange("target(0, 9)", x -> isNone(x.target(0, 9)), RefusalTest::scanned);
        dueNoChange("step(0, -1)", x -> isNone(x.step(0, -1)), RefusalTest::scanned);
        dueNoChange("emits(3, 4, 0)", x -> isNone(x.emits(3, 4, 0)), RefusalTest::scanned);
        dueNoChange("value(0, 0, 13)", x -> isNone(x.value(0, 0, 13)), RefusalTest::fullOfText);
        dueNoChange("value(0, 0, 5)", x -> isNone(x.value(0, 0, 5)), RefusalTest::scanned);
        dueNoChange("value(0, 0, 0)", x -> isNone(x.value(0, 0, 0)), RefusalTest::unbalanced);
        dueNoChange("hit(9, 0)", x -> isNone(x.hit(9, 0)), RefusalTest::scanned);
        dueNoChange("hit(0, 4)", x -> isNone(x.hit(0, 4)), RefusalTest::scanned);
        dueNoChange("derived(0, 30, 0)", x -> isNone(x.derived(0, 30, 0)), RefusalTest::scanned);
        dueNoChange("derived(0, 0, 3)", x -> isNone(x.derived(0, 0, 3)), RefusalTest::fullOfText);
    }

    private static boolean isNone(int answer) {
        return answer == Check.NONE;
    }

    private static void dueNoChange(String name, Call call, Supplier<FoldedFamily> making) {
        FoldedFamily x = making.get();
        FoldedFamily twin = making.get();
        Check.due(name + " is refused", call.isRefused(x), true);
        Check.dueRow("after " + name + " the grammar", grammar(x), grammar(twin));
        Check.dueRow("after " + name + " the hits", hits(x), hits(twin));
        Check.dueRow("after " + name + " the values", values(x), values(twin));
        Check.dueRow("after " + name + " what is made next", next(x), next(twin));
    }

    private static String grammar(FoldedFamily x) {
        StringBuilder all = new StringBuilder();
        for (int v = 0; x.kind(v) != Check.NONE; v++) {
            all.append(x.kind(v)).append(' ').append(x.node(v)).append(' ')
                    .append(x.target(v, 1)).append(' ').append(x.step(v, 1)).append(' ')
                    .append(x.emits(v, 0, 1)).append(';');
        }
        return all.toString();
    }

    private static String hits(FoldedFamily x) {
        return Check.hits(x) + ", " + Check.derivation(x, 0) + ", " + Check.derivation(x, 1);
    }

    private static String values(FoldedFamily x) {
        return Check.row(d -> x.value(0, 0, d)) + ", " + Check.row(i -> x.value(0, i, 1));
    }

    /** How far the text goes, how many columns there is room for, and the grammar of them all. */
    private static String next(FoldedFamily x) {
        StringBuilder all = new StringBuilder();
        all.append(x.feed(0, 1)).append(' ').append(x.build()).append(' ');
        all.append(values(x)).append(' ');
        for (int c = 0; c < 9; c++) {
            all.append(x.column(c == 0 ? ')' : '.', 0)).append(' ');
        }
        all.append(x.build()).append(' ').append(x.emits(3, 1, 2)).append(' ').append(x.step(0, 2));
        return all.toString();
    }
}
