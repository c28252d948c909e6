/** The edges of the terms: windows and hits. */
public final class WindowTermsTest {
    public static void main(String[] args) {
        emptyPartsAreNoWindows();
        windowsOfOneLetter();
        windowsOfWidthLetters();
        thresholdsAreAttained();
        greatestScoresFirst();
        earlierWindowsFirst();
        shorterWindowsFirst();
        noLetterInCommon();
        andSoOn();
        Check.end();
    }

    /** Four rows of gaps: no window scores as much as the empty part. */
    private static void emptyPartsAreNoWindows() {
        Check.sentence("A WINDOW is a part of the text with 1 letter or more");
        FoldedFamily x = Check.built(4, ".", -1);
        x.feed(0, 2);
        int empty = x.value(0, 0, 0);
        Check.due("one letter scores less", x.value(0, 0, 1) < empty, true);
        Check.due("scan for the empty part", x.scan(12, empty), 0);
        Check.due("scan(12, -1000)", x.scan(12, -1000), 2);
        Check.due("hit 0 has", x.hit(0, 1), 1);
        x.erase();
        Check.due("scan of no text", x.scan(12, -1000), 0);
    }

    private static void windowsOfOneLetter() {
        Check.sentence("with 1 to WIDTH letters: WIDTH 1");
        FoldedFamily x = Check.built(4, "()", 0, 01111);
        Check.feedAll(x, "01");
        Check.due("scan(1, -1000)", x.scan(1, -1000), 2);
        Check.due("hit 0 has", x.hit(0, 1), 1);
        Check.due("hit 1 has", x.hit(1, 1), 1);
        Check.due("scan(2, -1000)", x.scan(2, -1000), 1);
        Check.due("hit 0 has", x.hit(0, 1), 2);
    }

    /** Rows of eight letters: of every width up to that the widest windows are the best. */
    private static void windowsOfWidthLetters() {
        Check.sentence("with 1 to WIDTH letters: no more, and so many too");
        for (int width = 1; width <= 8; width++) {
            FoldedFamily x = Check.built(4, "........", 0, 01111, 02222, 03333, 0, 01111, 02222, 03333);
            Check.feedAll(x, "012301230123");
            x.scan(width, -1000);
            Check.due("width " + width + ": hit 0 has", x.hit(0, 1), width);
            Check.due("width " + width + ": the score", x.hit(0, 2), x.value(0, x.hit(0, 0), width));
        }
        FoldedFamily x = Check.built(4, "");
        x.feed(0, 12);
        int twelve = x.value(0, 0, 12);
        Check.due("scan(12), the whole text", x.scan(12, twelve), 12);
        Check.due("hit 11", x.hit(11, 0), 11);
        x = Check.built(4, "((..))", 0, 01111, 02222, 03333, 0, 01111);
        Check.feedAll(x, "3012301333");
        Check.due("scan(5, 0)", x.scan(5, 0), 0);
        for (int width = 6; width <= 12; width++) {
            Check.due("scan(" + width + ", 0)", x.scan(width, 0), 1);
            Check.due("hit 0 begins", x.hit(0, 0), 1);
            Check.due("hit 0 has", x.hit(0, 1), 6);
        }
    }

    private static void thresholdsAreAttained() {
        Check.sentence("windows that have a score of THRESHOLD or more");
        FoldedFamily x = Check.built(1, ".", 2);
        Check.feedAll(x, "0212");
        Check.due("scan(1, -10)", x.scan(1, -10), 0);
        Check.due("scan(1, -11)", x.scan(1, -11), 2);
        Check.due("scan(1, -12)", x.scan(1, -12), 2);
        Check.due("scan(1, -18)", x.scan(1, -18), 2);
        Check.due("scan(1, -19)", x.scan(1, -19), 4);
        Check.due("scan(1, 0)", x.scan(1, 0), 0);
        Check.due("scan(1, greatest)", x.scan(1, Integer.MAX_VALUE), 0);
        Check.due("scan(1, least)", x.scan(1, Integer.MIN_VALUE), 4);
        Check.due("scan(1, NONE)", x.scan(1, Check.NONE), 4);
    }

    private static void greatestScoresFirst() {
        Check.sentence("the one with the greatest score is hit 0");
        FoldedFamily x = Check.built(4, ".", 02223);
        Check.feedAll(x, "032");
        x.scan(1, -1000);
        Check.dueRow("hits", Check.hits(x), "2-3:-1 1-2:-9 0-1:-17");
    }

    private static void earlierWindowsFirst() {
        Check.sentence("of several that which begins first");
        FoldedFamily x = Check.built(1, "");
        Check.feedAll(x, "0123");
        Check.due("scan(4, -1000)", x.scan(4, -1000), 4);
        Check.dueRow("single letters", Check.hits(x), "0-1:-24 1-2:-24 2-3:-24 3-4:-24");
        dueTie(Check.built(4, "..", 04000, 04), "10", "0-2:-17", "1-2:-17");
        dueTie(Check.built(3, "()", 0, 04), "110", "0-2:-21", "2-3:-21");
    }

    private static void shorterWindowsFirst() {
        Check.sentence("of these the shortest");
        dueTie(Check.built(1, "()", 4, 4), "0011", "0-1:-36", "0-2:-36");
        dueTie(Check.built(2, "()", 044, 044), "00", "0-1:-37", "0-2:-37");
    }

    /** Two windows that no other surpasses have one score; the first one is hit 0. */
    private static void dueTie(FoldedFamily x, String text, String first, String other) {
        Check.feedAll(x, text);
        for (String window : new String[] {first, other}) {
            int begin = window.charAt(0) - '0';
            int end = window.charAt(2) - '0';
            int score = Integer.parseInt(window.substring(4));
            Check.due(window + " of " + text, x.value(0, begin, end - begin), score);
        }
        x.scan(text.length(), -1000);
        Check.dueRow("hit 0 of " + text, Check.hits(x).split(" ")[0], first);
    }

    /** Of two windows that share a letter one is a hit, of two that stand side by side both are. */
    private static void noLetterInCommon() {
        Check.sentence("among those that have no letter in common with hit 0");
        FoldedFamily x = Check.built(4, "()", 0, 0);
        Check.feedAll(x, "000");
        x.scan(2, 0);
        Check.dueRow("one letter in common", Check.hits(x), "0-2:" + x.value(0, 0, 2));
        Check.feedAll(x, "0");
        x.scan(2, 0);
        int score = x.value(0, 0, 2);
        Check.dueRow("side by side", Check.hits(x), "0-2:" + score + " 2-4:" + score);
        x = Check.built(4, "()", 0, 01111);
        Check.feedAll(x, "20122");
        x.scan(2, -1000);
        Check.dueRow("on both sides", Check.hits(x).replaceAll(":[-0-9]*", ""), "1-3 3-5 0-1");
    }

    private static void andSoOn() {
        Check.sentence("then likewise, and so on");
        FoldedFamily x = Check.built(4, "()()", 0, 03333, 01111, 02222);
        Check.feedAll(x, "031203120312031203120312");
        Check.due("scan(12, 0)", x.scan(12, 0), 6);
        for (int k = 0; k < 6; k++) {
            Check.due("hit " + k + " begins", x.hit(k, 0), 4 * k);
            Check.due("hit " + k + " has", x.hit(k, 1), 4);
        }
        Check.dueNone("hit(6, 0)", x.hit(6, 0));
        int count = x.scan(3, -1000);
        boolean[] taken = new boolean[24];
        int last = Integer.MAX_VALUE;
        for (int k = 0; k < count; k++) {
            for (int i = x.hit(k, 0); i < x.hit(k, 0) + x.hit(k, 1); i++) {
                Check.due("letter " + i + " is taken", taken[i], false);
                taken[i] = true;
            }
            Check.due("score " + k + " is no greater", x.hit(k, 2) <= last, true);
            last = x.hit(k, 2);
        }
        for (int i = 0; i < 24; i++) {
            Check.due("letter " + i + " is in a hit", taken[i], true);
        }
    }
}
