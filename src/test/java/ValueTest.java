/** Promise 12: the greatest score of a derivation of a part from a state. */
public final class ValueTest {
    public static void main(String[] args) {
        noColumns();
        oneColumn();
        partsWithoutDerivation();
        splitsOfFork();
        edgesOfParts();
        wrongInputsAreRefused();
        textThatGrows();
        allDerivationsTried("", 2, 3);
        allDerivationsTried(".", 2, 3);
        allDerivationsTried("()", 3, 3);
        allDerivationsTried("().", 2, 3);
        allDerivationsTried("(.)", 4, 3);
        allDerivationsTried("()()", 2, 2);
        Check.end();
    }

    /** Two rows: inserts on the right cost LOG(1, 5), then LOG(1, 2) for each step from IR. */
    private static void noColumns() {
        FoldedFamily x = Check.built(2, "");
        x.feed(0b11100100, 4);
        int[] due = {-6, -27, -35, -43, -51};
        for (int d = 0; d <= 4; d++) {
            Check.due("value(0, 0, " + d + ")", x.value(0, 0, d), due[d]);
        }
        Check.due("value(1, 0, 1)", x.value(1, 0, 1), -13);
        Check.due("value(2, 3, 1)", x.value(2, 3, 1), -8);
        Check.due("value(3, 2, 0)", x.value(3, 2, 0), 0);
    }

    /** One row with a 2: S to ML scores -11, ML emits 2 with 5, others with -3. */
    private static void oneColumn() {
        FoldedFamily x = Check.built(1, ".", 2);
        x.feed(0b0110, 2);
        Check.due("step(3, 1)", x.step(3, 1), -5);
        Check.due("value(3, 0, 1)", x.value(3, 0, 1), 5 - 5);
        Check.due("value(3, 1, 1)", x.value(3, 1, 1), -3 - 5);
        Check.due("value(0, 0, 1)", x.value(0, 0, 1), -11 + 5 - 5);
        Check.due("value(0, 1, 1)", x.value(0, 1, 1), -11 - 3 - 5);
        Check.due("value(0, 0, 0): S, D, E", x.value(0, 0, 0), -19 - 8);
        Check.due("value(4, 0, 0): D, E", x.value(4, 0, 0), -8);
        Check.due("value(4, 0, 1): D, IL, E", x.value(4, 0, 1), -8 - 8);
        Check.due("value(3, 0, 2): ML, IL, E", x.value(3, 0, 2), 5 - 13 - 8);
        Check.due("value(0, 0, 2): S, ML, IL, E", x.value(0, 0, 2), -11 + 5 - 13 - 8);
    }

    private static void partsWithoutDerivation() {
        FoldedFamily x = Check.built(1, "()");
        x.feed(0, 3);
        int[] shortest = {0, 1, 1, 2, 1, 1, 0, 1, 1, 0};
        for (int v = 0; v < 10; v++) {
            for (int d = 0; d <= 3; d++) {
                boolean none = d < shortest[v] || v == 9 && d > 0;
                Check.due("value(" + v + ", 0, " + d + ") is none",
                        x.value(v, 0, d) == Check.NONE, none);
            }
        }
    }

    /** B puts two parts together; the second may be empty, and so may the first. */
    private static void splitsOfFork() {
        FoldedFamily x = Check.built(4, "()()", 0, 01111, 02222, 03333);
        x.feed(0b11100100, 4);
        x.feed(0b11100100, 4);
        Check.due("value(3, 0, 4)", x.value(3, 0, 4), x.value(4, 0, 2) + x.value(12, 2, 2));
        Check.due("value(3, 2, 2), first part empty", x.value(3, 2, 2),
                x.value(4, 2, 0) + x.value(12, 2, 2));
        Check.due("value(3, 0, 2), second part empty", x.value(3, 0, 2),
                x.value(4, 0, 2) + x.value(12, 2, 0));
        Check.due("value(3, 0, 0), both empty", x.value(3, 0, 0),
                x.value(4, 0, 0) + x.value(12, 0, 0));
    }

    private static void edgesOfParts() {
        FoldedFamily x = Check.built(2, "");
        Check.due("value(0, 0, 0) of no text", x.value(0, 0, 0), -6);
        Check.due("value(0, 1, 0) of no text", x.value(0, 1, 0), Check.NONE);
        Check.due("value(0, 0, 1) of no text", x.value(0, 0, 1), Check.NONE);
        x.feed(0, 12);
        x.feed(0, 12);
        Check.due("value(0, 0, 12)", x.value(0, 0, 12), -27 - 11 * 8);
        Check.due("value(0, 12, 12)", x.value(0, 12, 12), -27 - 11 * 8);
        Check.due("value(0, 0, 13)", x.value(0, 0, 13), Check.NONE);
        Check.due("value(0, 0, 24)", x.value(0, 0, 24), Check.NONE);
        Check.due("value(0, 13, 12)", x.value(0, 13, 12), Check.NONE);
        Check.due("value(0, 23, 1)", x.value(0, 23, 1), -27);
        Check.due("value(0, 23, 2)", x.value(0, 23, 2), Check.NONE);
        Check.due("value(0, 24, 0)", x.value(0, 24, 0), -6);
        Check.due("value(0, 24, 1)", x.value(0, 24, 1), Check.NONE);
        Check.due("value(0, 25, 0)", x.value(0, 25, 0), Check.NONE);
    }

    private static void wrongInputsAreRefused() {
        FoldedFamily x = Check.built(2, "");
        x.feed(0, 4);
        int least = Integer.MIN_VALUE;
        int most = Integer.MAX_VALUE;
        for (int wrong : new int[] {-1, least, most, most - 1}) {
            Check.due("value(" + wrong + ", 0, 0)", x.value(wrong, 0, 0), Check.NONE);
            Check.due("value(0, " + wrong + ", 0)", x.value(0, wrong, 0), Check.NONE);
            Check.due("value(0, " + wrong + ", 1)", x.value(0, wrong, 1), Check.NONE);
            Check.due("value(0, " + wrong + ", 12)", x.value(0, wrong, 12), Check.NONE);
            Check.due("value(0, 0, " + wrong + ")", x.value(0, 0, wrong), Check.NONE);
            Check.due("value(0, 4, " + wrong + ")", x.value(0, 4, wrong), Check.NONE);
            Check.due("value(0, wrong, wrong)", x.value(0, wrong, wrong), Check.NONE);
        }
        Check.due("value(0, least, most)", x.value(0, least, most), Check.NONE);
        Check.due("value(0, most, least)", x.value(0, most, least), Check.NONE);
        Check.due("value(4, 0, 0)", x.value(4, 0, 0), Check.NONE);
        x.column('.', 0);
        Check.due("value(0, 0, 0) without a grammar", x.value(0, 0, 0), Check.NONE);
    }

    /** What was asked while the text was short must not be wrong when it is longer or another. */
    private static void textThatGrows() {
        FoldedFamily x = Check.built(2, "(.)()", 0, 011, 022, 033, 0);
        FoldedFamily y = Check.built(2, "(.)()", 0, 011, 022, 033, 0);
        Check.feedAll(y, "012302133210");
        for (int n = 0; n < 12; n++) {
            x.feed("012302133210".charAt(n) - '0', 1);
            for (int i = 0; i <= n; i++) {
                Check.due("value(0, " + i + ") to " + n,
                        x.value(0, i, n + 1 - i), y.value(0, i, n + 1 - i));
            }
        }
        x.erase();
        Check.feedAll(x, "3333");
        y.erase();
        y.feed(0xFF, 4);
        Check.due("value(0, 0, 4) of another text", x.value(0, 0, 4), y.value(0, 0, 4));
        x.clear();
        Check.addColumns(x, "()", 033, 033);
        x.build();
        Check.due("value(3, 0, 2) of another grammar", x.value(3, 0, 2),
                x.emits(3, 3, 3) + x.step(3, 2));
    }

    /** Each derivation is tried, by what the program tells of its grammar, without any memory. */
    private static void allDerivationsTried(String marks, int rows, int longest) {
        FoldedFamily x = Check.built(rows, marks, 04210, 01412, 00041, 03310);
        String text = "01220310";
        Check.feedAll(x, text);
        for (int v = 0; x.kind(v) != Check.NONE; v++) {
            for (int d = 0; d <= longest; d++) {
                for (int i = 0; i + d <= text.length(); i += 2) {
                    Check.due(marks + ": value(" + v + ", " + i + ", " + d + ")",
                            x.value(v, i, d), tried(x, v, text.substring(i, i + d)));
                }
            }
        }
    }

    private static int tried(FoldedFamily x, int v, String part) {
        int kind = x.kind(v);
        int best = Check.NONE;
        if (kind == 8) {
            return part.isEmpty() ? 0 : best;
        }
        if (kind == 7) {
            for (int cut = 0; cut <= part.length(); cut++) {
                int one = tried(x, x.target(v, 0), part.substring(0, cut));
                int other = tried(x, x.target(v, 1), part.substring(cut));
                best = one == Check.NONE || other == Check.NONE ? best : Math.max(best, one + other);
            }
            return best;
        }
        boolean before = kind == 1 || kind == 2 || kind == 5;
        boolean behind = kind == 1 || kind == 3 || kind == 6;
        int from = before ? 1 : 0;
        int to = part.length() - (behind ? 1 : 0);
        if (from > to) {
            return best;
        }
        int letters = 0;
        if (before || behind) {
            int last = part.charAt(part.length() - 1) - '0';
            letters = x.emits(v, before ? part.charAt(0) - '0' : last, last);
        }
        for (int k = 0; x.target(v, k) != Check.NONE; k++) {
            int rest = tried(x, x.target(v, k), part.substring(from, to));
            best = rest == Check.NONE ? best : Math.max(best, letters + x.step(v, k) + rest);
        }
        return best;
    }
}
