/** Promise 10: feed. */
public final class FeedTest {
    public static void main(String[] args) {
        lengthsAreAnswered();
        lowestBitsComeFirst();
        wrongNumbersAreRefused();
        hitsGoAndGrammarStays();
        refusalChangesNothing();
        Check.end();
    }

    private static void lengthsAreAnswered() {
        FoldedFamily x = new FoldedFamily(1);
        Check.due("feed(0, 1)", x.feed(0, 1), 1);
        Check.due("feed(0, 12)", x.feed(0, 12), 13);
        Check.due("feed(0, 11)", x.feed(0, 11), 24);
        Check.due("feed(0, 1), the 25th letter", x.feed(0, 1), Check.NONE);
        x.erase();
        Check.due("feed(0, 12) after erase", x.feed(0, 12), 12);
        Check.due("feed(0, 12) again", x.feed(0, 12), 24);
        x = new FoldedFamily(1);
        for (int n = 1; n <= 24; n++) {
            Check.due("letter " + n, x.feed(n, 1), n);
        }
    }

    /** ML of a column in which the row has a 2 tells whether a letter is a 2. */
    private static void dueText(FoldedFamily x, String text) {
        for (int a = 0; a < 4; a++) {
            x.clear();
            x.column('.', a);
            x.build();
            for (int i = 0; i < text.length(); i++) {
                int same = x.emits(3, a, 0) + x.step(3, 1);
                int other = x.emits(3, (a + 1) % 4, 0) + x.step(3, 1);
                Check.due("letter " + i + " is " + a, x.value(3, i, 1),
                        text.charAt(i) - '0' == a ? same : other);
            }
        }
        Check.due("the text ends there", x.value(0, text.length(), 1), Check.NONE);
        Check.due("the text reaches there", x.value(6, text.length(), 0), 0);
    }

    private static void lowestBitsComeFirst() {
        FoldedFamily x = new FoldedFamily(1);
        x.feed(0b11100100, 4);
        dueText(x, "0123");
        x.feed(0b0111, 1);
        dueText(x, "01233");
        x.feed(-1, 2);
        dueText(x, "0123333");
        x.feed(0xFF000001, 12);
        dueText(x, "0123333100000000000");
        x.erase();
        x.feed(0x80BFFFFE, 12);
        dueText(x, "233333333332");
        x.feed(0b010010110001, 6);
        dueText(x, "233333333332103201");
    }

    private static void wrongNumbersAreRefused() {
        FoldedFamily x = new FoldedFamily(1);
        for (int n : new int[] {0, -1, 13, 24, Integer.MIN_VALUE, Integer.MAX_VALUE}) {
            Check.due("feed(5, " + n + ")", x.feed(5, n), Check.NONE);
        }
        Check.due("feed(5, 12)", x.feed(5, 12), 12);
        Check.due("feed(5, 1)", x.feed(5, 1), 13);
        Check.due("feed(5, 12), one too many", x.feed(5, 12), Check.NONE);
        Check.due("feed(5, greatest)", x.feed(5, Integer.MAX_VALUE), Check.NONE);
        Check.due("feed(5, 11)", x.feed(5, 11), 24);
    }

    private static void hitsGoAndGrammarStays() {
        FoldedFamily x = Check.built(1, ".");
        x.feed(0, 2);
        Check.due("scan", x.scan(2, -1000), 2);
        Check.due("feed(0, 1)", x.feed(0, 1), 3);
        Check.due("hit(0, 0)", x.hit(0, 0), Check.NONE);
        Check.due("derived(0, 0, 0)", x.derived(0, 0, 0), Check.NONE);
        Check.due("kind(3)", x.kind(3), 2);
        Check.due("scan", x.scan(2, -1000), 3);
    }

    private static void refusalChangesNothing() {
        FoldedFamily x = Check.built(1, ".");
        x.feed(0, 12);
        x.feed(0, 10);
        Check.due("scan", x.scan(1, -1000), 22);
        for (int n : new int[] {0, 3, 13, -1}) {
            Check.due("feed(-1, " + n + ")", x.feed(-1, n), Check.NONE);
            Check.due("hit(21, 0)", x.hit(21, 0), 21);
            Check.due("derived(21, 0, 1)", x.derived(21, 0, 1), 21);
            Check.due("value(0, 23, 0)", x.value(0, 23, 0), Check.NONE);
        }
        Check.due("feed(-1, 2)", x.feed(-1, 2), 24);
    }
}
