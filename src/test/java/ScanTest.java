/** Promise 13: scan finds the hits in their order and answers how many there are. */
public final class ScanTest {
    public static void main(String[] args) {
        bestWindowsFirst();
        earlierAndShorterWindowsFirst();
        thresholdsAreAttained();
        widthsAreKept();
        hitsHaveNoLetterInCommon();
        wrongWidthsAreRefused();
        laterScansReplaceEarlierOnes();
        Check.end();
    }

    /** Where the hits begin and end, and their scores. */
    static String hits(FoldedFamily x) {
        StringBuilder all = new StringBuilder();
        for (int k = 0; x.hit(k, 0) != Check.NONE; k++) {
            all.append(k == 0 ? "" : " ").append(x.hit(k, 0)).append('-')
                    .append(x.hit(k, 0) + x.hit(k, 1)).append(':').append(x.hit(k, 2));
        }
        return all.toString();
    }

    /** One row with a 2: a 2 alone scores -11, another letter alone -19. */
    private static void bestWindowsFirst() {
        FoldedFamily x = Check.built(1, ".", 2);
        Check.feedAll(x, "0212");
        Check.due("scan(1, -1000)", x.scan(1, -1000), 4);
        Check.dueRow("hits", hits(x), "1-2:-11 3-4:-11 0-1:-19 2-3:-19");
        Check.due("scan(12, -1000)", x.scan(12, -1000), 4);
        Check.dueRow("hits", hits(x), "1-2:-11 3-4:-11 0-1:-19 2-3:-19");
    }

    private static void earlierAndShorterWindowsFirst() {
        FoldedFamily x = Check.built(1, "");
        Check.feedAll(x, "0123");
        Check.due("scan(4, -1000)", x.scan(4, -1000), 4);
        Check.dueRow("single letters score alike", hits(x), "0-1:-24 1-2:-24 2-3:-24 3-4:-24");
        dueTie(Check.built(1, "()", 4, 4), "0011", "0-1:-36", "0-2:-36");
        dueTie(Check.built(2, "()", 044, 044), "00", "0-1:-37", "0-2:-37");
        dueTie(Check.built(4, "..", 04000, 04), "10", "0-2:-17", "1-2:-17");
        dueTie(Check.built(3, "()", 0, 04), "110", "0-2:-21", "2-3:-21");
    }

    /** Two windows that no other surpasses have one score; the first one is hit 0. */
    private static void dueTie(FoldedFamily x, String text, String first, String other) {
        Check.feedAll(x, text);
        for (String window : new String[] {first, other}) {
            int begin = window.charAt(0) - '0';
            int end = window.charAt(2) - '0';
            int score = Integer.parseInt(window.substring(4));
            Check.due(window + " of " + text, x.value(0, begin, end - begin), score);
        }
        x.scan(text.length(), -1000);
        Check.dueRow("hit 0 of " + text, hits(x).split(" ")[0], first);
    }

    private static void thresholdsAreAttained() {
        FoldedFamily x = Check.built(1, ".", 2);
        Check.feedAll(x, "0212");
        Check.due("scan(1, -10)", x.scan(1, -10), 0);
        Check.due("scan(1, -11)", x.scan(1, -11), 2);
        Check.due("scan(1, -18)", x.scan(1, -18), 2);
        Check.due("scan(1, -19)", x.scan(1, -19), 4);
        Check.due("scan(1, 0)", x.scan(1, 0), 0);
        Check.due("scan(1, greatest)", x.scan(1, Integer.MAX_VALUE), 0);
        Check.due("scan(1, least)", x.scan(1, Integer.MIN_VALUE), 4);
        Check.due("scan(1, NONE)", x.scan(1, Check.NONE), 4);
    }

    /** Four rows 012301 score best as a whole, where the width lets them. */
    private static void widthsAreKept() {
        FoldedFamily x = Check.built(4, "((..))", 0, 01111, 02222, 03333, 0, 01111);
        Check.feedAll(x, "3012301333");
        Check.due("scan(6, 0)", x.scan(6, 0), 1);
        Check.dueRow("whole", hits(x).substring(0, 4), "1-7:");
        Check.due("scan(5, 0)", x.scan(5, 0), 0);
        for (int width = 1; width <= 12; width++) {
            x.scan(width, -1000);
            int longest = 0;
            for (int k = 0; x.hit(k, 1) != Check.NONE; k++) {
                longest = Math.max(longest, x.hit(k, 1));
            }
            Check.due("width " + width + " is kept", longest <= width, true);
            Check.due("width " + width + " is enough", longest >= 6, width >= 6);
        }
    }

    private static void hitsHaveNoLetterInCommon() {
        FoldedFamily x = Check.built(4, "()()", 0, 03333, 01111, 02222);
        Check.feedAll(x, "031203120312031203120312");
        int count = x.scan(12, -1000);
        boolean[] taken = new boolean[24];
        int last = Integer.MAX_VALUE;
        for (int k = 0; k < count; k++) {
            for (int i = x.hit(k, 0); i < x.hit(k, 0) + x.hit(k, 1); i++) {
                Check.due("letter " + i + " is taken", taken[i], false);
                taken[i] = true;
            }
            Check.due("score " + k + " is no greater", x.hit(k, 2) <= last, true);
            last = x.hit(k, 2);
        }
        Check.due("hit 0 begins", x.hit(0, 0), 0);
        Check.due("hit 0 has", x.hit(0, 1), 4);
        Check.due("hit 5 begins", x.hit(5, 0), 20);
        Check.due("hit " + count, x.hit(count, 0), Check.NONE);
        x.clear();
        x.build();
        Check.due("24 single letters", x.scan(12, -1000), 24);
        Check.due("hit 23", x.hit(23, 0), 23);
    }

    private static void wrongWidthsAreRefused() {
        FoldedFamily x = Check.family(1, ".", 2);
        Check.feedAll(x, "0212");
        Check.due("scan(1, 0) without a grammar", x.scan(1, -1000), Check.NONE);
        x.build();
        Check.due("scan(1, -1000)", x.scan(1, -1000), 4);
        for (int width : new int[] {0, -1, 13, 24, Integer.MIN_VALUE, Integer.MAX_VALUE}) {
            Check.due("scan(" + width + ", -11)", x.scan(width, -11), Check.NONE);
            Check.dueRow("hits stay", hits(x), "1-2:-11 3-4:-11 0-1:-19 2-3:-19");
        }
        Check.due("scan(12, -11)", x.scan(12, -11), 2);
    }

    private static void laterScansReplaceEarlierOnes() {
        FoldedFamily x = Check.built(1, ".", 2);
        Check.feedAll(x, "0212");
        x.scan(1, -1000);
        Check.due("scan(1, -11)", x.scan(1, -11), 2);
        Check.due("hit(2, 0)", x.hit(2, 0), Check.NONE);
        Check.due("scan(1, 5)", x.scan(1, 5), 0);
        Check.due("hit(0, 0)", x.hit(0, 0), Check.NONE);
        Check.due("scan(1, -19)", x.scan(1, -19), 4);
        Check.dueRow("hits", hits(x), "1-2:-11 3-4:-11 0-1:-19 2-3:-19");
    }
}
