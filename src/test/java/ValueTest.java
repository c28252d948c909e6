/** Promise 12: the greatest score of a derivation of a part from a state. */
public final class ValueTest {
    public static void main(String[] args) {
        noColumns();
        oneColumn();
        textThatGrows();
        noDerivation();
        StateEdges.due("12", "value", (x, v) -> x.value(v, 0, 1));
        beginsFromZeroOn();
        lettersFromZeroOn();
        partsEndInTheText();
        longestPart();
        Check.sentence("12: The value of state v and the part of the text");
        allDerivationsTried("", 2, 3);
        allDerivationsTried(".", 2, 3);
        allDerivationsTried("()", 3, 3);
        allDerivationsTried("().", 2, 3);
        allDerivationsTried("(.)", 4, 3);
        allDerivationsTried("()()", 2, 2);
        Check.end();
    }

    /** Two rows: inserts on the right cost LOG(1, 5), then LOG(1, 2) for each step from IR. */
    private static void noColumns() {
        Check.sentence("12: The value of state v and the part of the text");
        FoldedFamily x = Check.built(2, "");
        x.feed(0b11100100, 4);
        int[] due = {-6, -27, -35, -43, -51};
        for (int d = 0; d <= 4; d++) {
            Check.due("value(0, 0, " + d + ")", x.value(0, 0, d), due[d]);
        }
        Check.due("value(1, 0, 1)", x.value(1, 0, 1), -13);
        Check.due("value(2, 3, 1)", x.value(2, 3, 1), -8);
        Check.due("value(3, 2, 0)", x.value(3, 2, 0), 0);
    }

    /** One row with a 2: S to ML scores -11, ML emits 2 with 5, others with -3. */
    private static void oneColumn() {
        FoldedFamily x = Check.built(1, ".", 2);
        x.feed(0b0110, 2);
        Check.due("step(3, 1)", x.step(3, 1), -5);
        Check.due("value(3, 0, 1)", x.value(3, 0, 1), 5 - 5);
        Check.due("value(3, 1, 1)", x.value(3, 1, 1), -3 - 5);
        Check.due("value(0, 0, 1)", x.value(0, 0, 1), -11 + 5 - 5);
        Check.due("value(0, 1, 1)", x.value(0, 1, 1), -11 - 3 - 5);
        Check.due("value(0, 0, 0): S, D, E", x.value(0, 0, 0), -19 - 8);
        Check.due("value(4, 0, 0): D, E", x.value(4, 0, 0), -8);
        Check.due("value(4, 0, 1): D, IL, E", x.value(4, 0, 1), -8 - 8);
        Check.due("value(3, 0, 2): ML, IL, E", x.value(3, 0, 2), 5 - 13 - 8);
        Check.due("value(0, 0, 2): S, ML, IL, E", x.value(0, 0, 2), -11 + 5 - 13 - 8);
    }

    private static void noDerivation() {
        Check.sentence("12: NONE when it has no derivation");
        FoldedFamily x = Check.built(1, "()");
        x.feed(0, 3);
        int[] shortest = {0, 1, 1, 2, 1, 1, 0, 1, 1, 0};
        for (int v = 0; v < 10; v++) {
            for (int d = 0; d <= 3; d++) {
                boolean none = d < shortest[v] || v == 9 && d > 0;
                Check.due("value(" + v + ", 0, " + d + ") is none",
                        x.value(v, 0, d) == Check.NONE, none);
            }
        }
    }

    private static FoldedFamily withText() {
        FoldedFamily x = Check.built(2, "");
        x.feed(0, 4);
        return x;
    }

    private static void beginsFromZeroOn() {
        Check.sentence("12: NONE when there is no such part (i from 0 on)");
        FoldedFamily x = withText();
        Check.due("value(0, 0, 1)", x.value(0, 0, 1), -27);
        for (int i : Check.outside(4)) {
            for (int d : new int[] {0, 1, 4, 12}) {
                Check.dueNone("value(0, " + i + ", " + d + ")", x.value(0, i, d));
            }
        }
        for (int i = -26; i < 0; i++) {
            Check.dueNone("value(3, " + i + ", 0)", x.value(3, i, 0));
            Check.dueNone("value(0, " + i + ", 12), which may end in the text", x.value(0, i, 12));
        }
        Check.dueNone("value(0, -1, 5), which ends in the text", x.value(0, -1, 5));
    }

    private static void lettersFromZeroOn() {
        Check.sentence("12: NONE when there is no such part (d from 0 on)");
        FoldedFamily x = withText();
        Check.due("value(0, 2, 0)", x.value(0, 2, 0), -6);
        for (int d : Check.outside(12)) {
            for (int i : new int[] {0, 2, 4}) {
                Check.dueNone("value(0, " + i + ", " + d + ")", x.value(0, i, d));
            }
        }
        for (int d = -26; d < 0; d++) {
            for (int i = 0; i <= 4; i += 2) {
                Check.dueNone("value(3, " + i + ", " + d + ")", x.value(3, i, d));
            }
        }
        Check.dueNone("value(0, 5, -1), which ends in the text", x.value(0, 5, -1));
        Check.dueNone("value(0, least, most)", x.value(0, Integer.MIN_VALUE, Integer.MAX_VALUE));
        Check.dueNone("value(0, most, least)", x.value(0, Integer.MAX_VALUE, Integer.MIN_VALUE));
        Check.dueNone("value(0, most, most)", x.value(0, Integer.MAX_VALUE, Integer.MAX_VALUE));
    }

    /** A part may end just behind the last letter, and an empty one may begin there. */
    private static void partsEndInTheText() {
        Check.sentence("12: NONE when there is no such part: the text ends before the part");
        FoldedFamily x = Check.built(2, "");
        for (int length = 0; length <= 24; length++) {
            dueEnds(x, length, 0);
            dueEnds(x, length, Math.min(1, length));
            dueEnds(x, length, Math.min(12, length));
            x.feed(0, 1);
        }
    }

    /** With d letters at the end of a text of this length, and one farther on. */
    private static void dueEnds(FoldedFamily x, int length, int d) {
        int due = d == 0 ? -6 : -27 - 8 * (d - 1);
        Check.due(length + " letters: value(0, " + (length - d) + ", " + d + ")",
                x.value(0, length - d, d), due);
        Check.dueNone(length + " letters: value(0, " + (length - d + 1) + ", " + d + ")",
                x.value(0, length - d + 1, d));
        Check.dueNone(length + " letters: value(0, " + (length - d) + ", " + (d + 1) + ")",
                x.value(0, length - d, d + 1));
    }

    private static void longestPart() {
        Check.sentence("12: NONE when d is above 12");
        FoldedFamily x = Check.built(2, "");
        x.feed(0, 12);
        x.feed(0, 12);
        for (int i = 0; i <= 12; i++) {
            Check.due("value(0, " + i + ", 12)", x.value(0, i, 12), -27 - 11 * 8);
            for (int v = 0; v < 4; v++) {
                for (int d : new int[] {13, 14, 23, 24, 25}) {
                    Check.dueNone("value(" + v + ", " + i + ", " + d + ")", x.value(v, i, d));
                }
            }
        }
    }

    /** What was asked while the text was short must not be wrong when it is longer or another. */
    private static void textThatGrows() {
        FoldedFamily x = Check.built(2, "(.)()", 0, 011, 022, 033, 0);
        FoldedFamily y = Check.built(2, "(.)()", 0, 011, 022, 033, 0);
        Check.feedAll(y, "012302133210");
        for (int n = 0; n < 12; n++) {
            x.feed("012302133210".charAt(n) - '0', 1);
            for (int i = 0; i <= n; i++) {
                Check.due("value(0, " + i + ") to " + n,
                        x.value(0, i, n + 1 - i), y.value(0, i, n + 1 - i));
            }
        }
        x.erase();
        Check.feedAll(x, "3333");
        y.erase();
        y.feed(0xFF, 4);
        Check.due("value(0, 0, 4) of another text", x.value(0, 0, 4), y.value(0, 0, 4));
        x.clear();
        Check.addColumns(x, "()", 033, 033);
        x.build();
        Check.due("value(3, 0, 2) of another grammar", x.value(3, 0, 2),
                x.emits(3, 3, 3) + x.step(3, 2));
    }

    /** Each derivation is tried, by what the program tells of its grammar, without any memory. */
    private static void allDerivationsTried(String marks, int rows, int longest) {
        String text = "01220310";
        Renewed x = new Renewed(() -> {
            FoldedFamily made = Check.built(rows, marks, 04210, 01412, 00041, 03310);
            Check.feedAll(made, text);
            return made;
        });
        for (int v = 0; x.next().kind(v) != Check.NONE; v++) {
            for (int d = 0; d <= longest; d++) {
                for (int i = 0; i + d <= text.length(); i += 2) {
                    Check.due(marks + ": value(" + v + ", " + i + ", " + d + ")",
                            x.next().value(v, i, d), tried(x, v, text.substring(i, i + d)));
                }
            }
        }
    }

    private static int tried(Renewed x, int v, String part) {
        int kind = x.next().kind(v);
        int best = Check.NONE;
        if (kind == 8) {
            return part.isEmpty() ? 0 : best;
        }
        if (kind == 7) {
            for (int cut = 0; cut <= part.length(); cut++) {
                int one = tried(x, x.next().target(v, 0), part.substring(0, cut));
                int other = tried(x, x.next().target(v, 1), part.substring(cut));
                best = one == Check.NONE || other == Check.NONE ? best : Math.max(best, one + other);
            }
            return best;
        }
        boolean before = kind == 1 || kind == 2 || kind == 5;
        boolean behind = kind == 1 || kind == 3 || kind == 6;
        int from = before ? 1 : 0;
        int to = part.length() - (behind ? 1 : 0);
        if (from > to) {
            return best;
        }
        int letters = 0;
        if (before || behind) {
            int last = part.charAt(part.length() - 1) - '0';
            letters = x.next().emits(v, before ? part.charAt(0) - '0' : last, last);
        }
        for (int k = 0; x.next().target(v, k) != Check.NONE; k++) {
            int rest = tried(x, x.next().target(v, k), part.substring(from, to));
            best = rest == Check.NONE ? best : Math.max(best, letters + x.next().step(v, k) + rest);
        }
        return best;
    }
}
