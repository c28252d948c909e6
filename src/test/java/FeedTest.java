/** Promise 10: feed. */
public final class FeedTest {
    public static void main(String[] args) {
        lowestBitsComeFirst();
        upperBitsMeanNothing();
        lengthsAreAnswered();
        hitsGo();
        grammarStays();
        wrongNumbersAreRefused();
        moreThan24AreRefused();
        refusalChangesNothing();
        Check.end();
    }

    /** ML of a column in which the row has the letter a tells whether a letter is an a. */
    private static void dueText(FoldedFamily x, String text) {
        for (int a = 0; a < 4; a++) {
            x.clear();
            x.column('.', a);
            x.build();
            for (int i = 0; i < text.length(); i++) {
                int same = x.emits(3, a, 0) + x.step(3, 1);
                int other = x.emits(3, (a + 1) % 4, 0) + x.step(3, 1);
                Check.due("letter " + i + " is " + a, x.value(3, i, 1),
                        text.charAt(i) - '0' == a ? same : other);
            }
        }
        Check.dueNone("the text ends there", x.value(0, text.length(), 1));
        Check.due("the text reaches there", x.value(6, text.length(), 0), 0);
    }

    private static void lowestBitsComeFirst() {
        Check.sentence("10: Puts n letters behind the text: the lowest two bits of letters, ...");
        FoldedFamily x = new FoldedFamily(1);
        x.feed(0b11100100, 4);
        dueText(x, "0123");
        x.feed(0b010010110001, 6);
        dueText(x, "0123103201");
        x = new FoldedFamily(1);
        x.feed(0b000000000000000000000001, 12);
        x.feed(0b100000000000000000000000, 12);
        dueText(x, "100000000000000000000002");
    }

    private static void upperBitsMeanNothing() {
        Check.sentence("10: letters beyond the n that are asked for are not put");
        FoldedFamily x = new FoldedFamily(1);
        x.feed(-1 << 2, 1);
        dueText(x, "0");
        x.feed(Integer.MIN_VALUE + 2, 2);
        dueText(x, "020");
        x.feed(0xFF000001, 12);
        dueText(x, "020100000000000");
        x = new FoldedFamily(1);
        x.feed(-1, 2);
        dueText(x, "33");
        x = new FoldedFamily(1);
        x.feed(0x80BFFFFE, 12);
        dueText(x, "233333333332");
    }

    private static void lengthsAreAnswered() {
        Check.sentence("10: Answers the length of the text");
        FoldedFamily x = new FoldedFamily(1);
        for (int length = 1; length <= 24; length++) {
            Check.due("feed(" + length + ", 1)", x.feed(length, 1), length);
        }
        for (int n = 1; n <= 12; n++) {
            x.erase();
            Check.due("feed(0, " + n + ")", x.feed(0, n), n);
            Check.due("feed(-1, " + n + ")", x.feed(-1, n), 2 * n);
        }
    }

    private static void hitsGo() {
        Check.sentence("10: and there is no hit any more");
        FoldedFamily x = Check.built(1, ".");
        x.feed(0, 2);
        Check.due("scan", x.scan(2, -1000), 2);
        Check.due("feed(0, 1)", x.feed(0, 1), 3);
        Check.dueNoHits(x);
    }

    private static void grammarStays() {
        Check.sentence("10: feed takes no grammar and no columns");
        FoldedFamily x = Check.built(1, ".");
        x.feed(0, 12);
        Check.due("kind(3)", x.kind(3), 2);
        Check.due("value(3, 11, 1)", x.value(3, 11, 1), 0);
        Check.due("scan(1, 0)", x.scan(1, -11), 12);
        x.feed(0, 12);
        Check.due("build()", x.build(), 7);
    }

    private static void wrongNumbersAreRefused() {
        Check.sentence("10: refused, NONE, when n is not 1 .. 12");
        FoldedFamily x = new FoldedFamily(1);
        Check.dueNone("feed(5, 0)", x.feed(5, 0));
        for (int n : Check.outside(12)) {
            Check.dueNone("feed(5, " + n + ")", x.feed(5, n));
        }
        Check.due("feed(5, 12)", x.feed(5, 12), 12);
        Check.dueNone("feed(5, 0)", x.feed(5, 0));
        for (int n : Check.outside(12)) {
            Check.dueNone("feed(5, " + n + ") behind 12", x.feed(5, n));
        }
        Check.due("feed(5, 1)", x.feed(5, 1), 13);
    }

    private static void moreThan24AreRefused() {
        Check.sentence("10: refused, NONE, when there would be more than 24");
        for (int there = 12; there <= 24; there++) {
            FoldedFamily x = new FoldedFamily(1);
            x.feed(0, 12);
            for (int more = 12; more < there; more++) {
                x.feed(0, 1);
            }
            for (int n = 25 - there; n <= 12; n++) {
                Check.dueNone(there + " letters: feed(0, " + n + ")", x.feed(0, n));
            }
            if (there < 24) {
                Check.due(there + " letters: the rest", x.feed(0, 24 - there), 24);
            }
            Check.dueNone("the 25th letter", x.feed(0, 1));
            x.erase();
            Check.due("feed(0, 12) after erase", x.feed(0, 12), 12);
        }
    }

    private static void refusalChangesNothing() {
        Check.sentence("10: a refused feed changes nothing");
        FoldedFamily x = Check.built(1, ".");
        x.feed(0, 12);
        x.feed(0, 10);
        Check.due("scan", x.scan(1, -1000), 22);
        for (int n : new int[] {0, 3, 13, -1}) {
            Check.dueNone("feed(-1, " + n + ")", x.feed(-1, n));
            Check.due("hit(21, 0)", x.hit(21, 0), 21);
            Check.due("derived(21, 0, 1)", x.derived(21, 0, 1), 21);
            Check.dueNone("value(0, 23, 0)", x.value(0, 23, 0));
        }
        Check.due("feed(-1, 2)", x.feed(-1, 2), 24);
    }
}
