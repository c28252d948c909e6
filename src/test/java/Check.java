import java.util.function.IntUnaryOperator;

/**
 * Compares answers with those that are due, tells the sentence of the document that a wrong answer
 * breaks, and ends a test with exit code 1 if there was one.
 */
final class Check {
    static final int NONE = -1000000;

    /** How many calls the document allows an object. */
    static final int MOST_CALLS = 512;

    private static String sentence = "";
    private static int askedBefore;
    private static int asked;
    private static int wrong;

    private Check() {
    }

    /** What is asked from here on stands for these words of the document, and something must be. */
    static void sentence(String words) {
        closeSentence();
        sentence = words;
        askedBefore = asked;
    }

    private static void closeSentence() {
        if (!sentence.isEmpty() && asked == askedBefore) {
            wrong++;
            System.out.println("[" + sentence + "] was not asked for");
        }
    }

    static void due(String call, int got, int want) {
        dueRow(call, String.valueOf(got), String.valueOf(want));
    }

    static void due(String call, boolean got, boolean want) {
        dueRow(call, String.valueOf(got), String.valueOf(want));
    }

    static void dueNone(String call, int got) {
        due(call, got, NONE);
    }

    static void dueRow(String call, String got, String want) {
        asked++;
        if (!got.equals(want)) {
            wrong++;
            System.out.println("[" + sentence + "] " + call + " answered " + got + ", due is " + want);
        }
    }

    /** No call that needs a grammar finds one. */
    static void dueNoGrammar(FoldedFamily x) {
        dueNone("kind(0)", x.kind(0));
        dueNone("node(0)", x.node(0));
        dueNone("target(0, 0)", x.target(0, 0));
        dueNone("step(0, 0)", x.step(0, 0));
        dueNone("emits(1, 0, 0)", x.emits(1, 0, 0));
        dueNone("value(0, 0, 0)", x.value(0, 0, 0));
        dueNone("scan(1, -1000)", x.scan(1, -1000));
    }

    static void dueNoHits(FoldedFamily x) {
        for (int what = 0; what <= 3; what++) {
            dueNone("hit(0, " + what + ")", x.hit(0, what));
        }
        for (int what = 0; what <= 2; what++) {
            dueNone("derived(0, 0, " + what + ")", x.derived(0, 0, what));
        }
    }

    /** Ends the test's main method. */
    static void end() {
        closeSentence();
        if (asked == 0 || wrong != 0) {
            System.out.println(wrong + " of " + asked + " answers are not as due");
            System.exit(1);
        }
    }

    static int wrong() {
        return wrong;
    }

    /**
     * Numbers outside 0 .. last: next to both ends, at both ends of int, and such as are inside when
     * their upper bits or their sign are lost.
     */
    static int[] outside(int last) {
        return new int[] {
            -1, -2, -3, -last - 1, last + 1, last + 2, 100, 256, 1 << 16, 1 << 28, 1 << 30,
            Integer.MIN_VALUE, Integer.MIN_VALUE + 1, Integer.MIN_VALUE + last,
            Integer.MAX_VALUE - 1, Integer.MAX_VALUE};
    }

    /** A family with these marks and, in every column, these letters. */
    static FoldedFamily family(int rows, String marks, int... letters) {
        FoldedFamily x = new FoldedFamily(rows);
        addColumns(x, marks, letters);
        return x;
    }

    static FoldedFamily built(int rows, String marks, int... letters) {
        FoldedFamily x = family(rows, marks, letters);
        x.build();
        return x;
    }

    /** One column that is no gap, and a scan whose four hits are single letters. */
    static FoldedFamily scannedColumn() {
        FoldedFamily x = built(1, ".", 2);
        feedAll(x, "0212");
        x.scan(1, -1000);
        return x;
    }

    /** Letters that are not given are 0: letter 0 in every row. */
    static void addColumns(FoldedFamily x, String marks, int... letters) {
        for (int c = 0; c < marks.length(); c++) {
            x.column(marks.charAt(c), c < letters.length ? letters[c] : 0);
        }
    }

    /** Feeds the digits 0 .. 3 of the text, one by one. */
    static void feedAll(FoldedFamily x, String text) {
        for (int i = 0; i < text.length(); i++) {
            x.feed(text.charAt(i) - '0', 1);
        }
    }

    /** What a call for each number from 0 on answers, up to the first NONE. */
    static String row(IntUnaryOperator call) {
        StringBuilder row = new StringBuilder();
        for (int k = 0; k < MOST_CALLS; k++) {
            int answer = call.applyAsInt(k);
            if (answer == NONE) {
                break;
            }
            row.append(k == 0 ? "" : " ").append(answer);
        }
        return row.toString();
    }

    /** The hits: where each begins and ends, and its score. */
    static String hits(FoldedFamily x) {
        StringBuilder all = new StringBuilder();
        for (int k = 0; k < MOST_CALLS; k++) {
            int begin = x.hit(k, 0);
            if (begin == NONE) {
                break;
            }
            all.append(k == 0 ? "" : " ").append(begin).append('-')
                    .append(begin + x.hit(k, 1)).append(':').append(x.hit(k, 2));
        }
        return all.toString();
    }

    /** The states of hit k with where their parts begin and how many letters these have. */
    static String derivation(FoldedFamily x, int k) {
        StringBuilder all = new StringBuilder();
        for (int n = 0; n < MOST_CALLS; n++) {
            int state = x.derived(k, n, 0);
            if (state == NONE) {
                break;
            }
            all.append(n == 0 ? "" : " ").append(state).append('@')
                    .append(x.derived(k, n, 1)).append('+').append(x.derived(k, n, 2));
        }
        return all.toString();
    }
}
