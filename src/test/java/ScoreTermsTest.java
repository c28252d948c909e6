/** The edges of the terms: how a row goes, LOG, and the scores of steps and letters. */
public final class ScoreTermsTest {
    public static void main(String[] args) {
        rowsAtLeftAndRight();
        rowsAtBoth();
        rowsAtOtherNodes();
        logAttainsPowersOfTwo();
        logGoesDownBetweenThem();
        logOfEveryStep();
        stepsOfInserts();
        stepsOfFork();
        statesWithoutRows();
        insertsEmitAnyLetter();
        Check.end();
    }

    private static void rowsAtLeftAndRight() {
        Check.sentence("in ML if it has a letter in column i, else in D; in MR if it has one in j");
        for (int rows = 1; rows <= 4; rows++) {
            for (int gaps = 0; gaps <= rows; gaps++) {
                int letters = (1 << 3 * gaps) - 1;
                int match = PlainFamily.log(rows - gaps + 1, rows + 4);
                int gap = PlainFamily.log(gaps + 1, rows + 4);
                FoldedFamily x = Check.built(rows, ".", letters);
                Check.due(gaps + " gaps of " + rows + ": to ML", x.step(0, 2), match);
                Check.due(gaps + " gaps of " + rows + ": to D", x.step(0, 3), gap);
                x = Check.built(rows, "().", 0, 0, letters);
                Check.due(gaps + " gaps of " + rows + ": to MR", x.step(0, 2), match);
                Check.due(gaps + " gaps of " + rows + ": to D", x.step(0, 3), gap);
            }
        }
    }

    /** Row 0 has both letters, row 1 that in i, row 2 that in j, row 3 none: LOG(2, 10) each. */
    private static void rowsAtBoth() {
        Check.sentence("in MP, ML, MR or D, as it has letters in both, in i alone, in j alone, or none");
        FoldedFamily x = Check.built(4, "()", 04400, 04040);
        Check.dueRow("steps of S", Check.row(k -> x.step(0, k)), "-27 -27 -19 -19 -19 -19");
        int[][] letters = {{0, 0}, {0, 7}, {7, 0}, {7, 7}};
        for (int way = 0; way < 4; way++) {
            FoldedFamily y = Check.built(1, "()", letters[way][0], letters[way][1]);
            for (int k = 0; k < 4; k++) {
                Check.due("way " + way + ": step(0, " + (2 + k) + ")", y.step(0, 2 + k),
                        k == way ? -15 : -23);
            }
        }
    }

    /** Every row goes from S to B, and from both S below it to the states of BOTH. */
    private static void rowsAtOtherNodes() {
        Check.sentence("at other nodes it is in S, B or E");
        for (int rows = 1; rows <= 4; rows++) {
            int all = (1 << 3 * rows) - 1;
            for (int letters : new int[] {0, all}) {
                FoldedFamily x = Check.built(rows, "()()", letters, letters, letters, letters);
                int way = letters == 0 ? 0 : 3;
                Check.due("S to B", x.step(0, 2), PlainFamily.log(rows + 1, rows + 3));
                Check.due("S of FIRST", x.step(4, way), PlainFamily.log(rows + 1, rows + 4));
                Check.due("S of SECOND", x.step(12, way + 1), PlainFamily.log(rows + 1, rows + 5));
                Check.due("to E", x.step(5 + way, 2), PlainFamily.log(rows + 1, rows + 3));
            }
        }
    }

    private static void logAttainsPowersOfTwo() {
        Check.sentence("the greatest k such that 2 to the power of k is not more than (a / b)^8");
        FoldedFamily x = Check.built(4, "()()", 0, 0, 0, 0);
        Check.due("LOG(1, 8)", x.step(4, 1), -24);
        Check.due("LOG(1, 2)", x.step(10, 0), -8);
        Check.due("LOG(80, 20)", x.emits(5, 0, 0), 16);
        x = Check.built(4, "()()", 04000, 0);
        Check.due("LOG(4, 8)", x.step(4, 0), -8);
        Check.due("LOG(2, 8)", x.step(4, 2), -16);
        x = Check.built(4, ".", 00001);
        Check.due("LOG(16, 8)", x.emits(3, 0, 0), 8);
        Check.due("LOG(8, 8)", x.emits(3, 1, 0), 0);
        Check.due("LOG(4, 8)", x.emits(3, 2, 0), -8);
        Check.due("LOG(1, 4)", Check.built(1, ".()").step(1, 0), -16);
    }

    private static void logGoesDownBetweenThem() {
        Check.sentence("the greatest whole number k: below 0 too the lower one");
        FoldedFamily x = Check.built(1, "()", 0, 0);
        Check.due("LOG(16, 17), -0.7", x.emits(3, 1, 1), -1);
        Check.due("LOG(32, 17), 7.3", x.emits(3, 0, 0), 7);
        Check.due("LOG(2, 4), -8", x.step(3, 2), -8);
        Check.due("LOG(1, 7), -22.5", x.step(0, 0), -23);
        x = Check.built(4, "()", 0, 0);
        Check.due("LOG(16, 20), -2.6", x.emits(3, 1, 1), -3);
        Check.due("LOG(5, 10), -8", x.step(0, 2), -8);
        Check.due("LOG(1, 10), -26.6", x.step(0, 0), -27);
        x = Check.built(4, ".", 0);
        Check.due("LOG(20, 8), 10.6", x.emits(3, 0, 0), 10);
        Check.due("LOG(5, 8), -5.4", x.step(0, 2), -6);
    }

    /** LOG(c + 1, n + m) for all c and n, with m = 3, 4, 5 and 6 targets. */
    private static void logOfEveryStep() {
        Check.sentence("LOG(c + 1, n + m)");
        String[] marks = {"", ".", "()()", "()"};
        int[] state = {0, 0, 12, 0};
        int[] first = {2, 2, 1, 2};
        for (int rows = 1; rows <= 4; rows++) {
            for (int c = 0; c <= rows; c++) {
                int gaps = -1 << 3 * c;
                for (int n = 0; n < marks.length; n++) {
                    FoldedFamily x = Check.built(rows, marks[n], gaps, gaps, gaps, gaps);
                    int v = state[n];
                    int going = n == 0 ? rows : c;
                    int targets = Check.row(k -> x.target(v, k)).split(" ").length;
                    Check.due("targets of " + v + " of " + marks[n], targets, n + 3);
                    Check.due("LOG(1, " + (rows + targets) + ")", x.step(v, 0),
                            PlainFamily.log(1, rows + targets));
                    Check.due("LOG(" + (going + 1) + ", " + (rows + targets) + ")",
                            x.step(v, first[n]), PlainFamily.log(going + 1, rows + targets));
                }
            }
        }
    }

    private static void stepsOfInserts() {
        Check.sentence("c: 0 if w is an insert, or v is one; n: 0 if v is an insert");
        for (int rows = 1; rows <= 4; rows++) {
            FoldedFamily x = Check.built(rows, "()");
            Check.dueRow("from IL of ROOT", Check.row(k -> x.step(1, k)), "-21 -21 -21 -21 -21 -21");
            Check.dueRow("from IR of ROOT", Check.row(k -> x.step(2, k)), "-19 -19 -19 -19 -19");
            Check.dueRow("from IL of BOTH", Check.row(k -> x.step(7, k)), "-13 -13 -13");
            Check.dueRow("from IR of BOTH", Check.row(k -> x.step(8, k)), "-8 -8");
            int toInsert = PlainFamily.log(1, rows + 3);
            Check.due("from MP to IL", x.step(3, 0), toInsert);
            Check.due("from MP to IR", x.step(3, 1), toInsert);
        }
    }

    private static void stepsOfFork() {
        Check.sentence("the steps from B have the score 0");
        for (int rows = 1; rows <= 4; rows++) {
            FoldedFamily x = Check.built(rows, "()()");
            Check.dueRow("steps of B", Check.row(k -> x.step(3, k)), "0 0");
            FoldedFamily y = Check.built(rows, "()()", -1, -1, -1, -1);
            Check.dueRow("steps of B, gaps", Check.row(k -> y.step(3, k)), "0 0");
        }
    }

    /** n = 0: LOG(16, 16), LOG(4, 4) and LOG(1, m). */
    private static void statesWithoutRows() {
        Check.sentence("MP, ML and MR in which no row is");
        FoldedFamily x = Check.built(4, "()", -1, -1);
        for (int a = 0; a < 4; a++) {
            Check.due("ML: emits(4, " + a + ", 0)", x.emits(4, a, 0), 0);
            Check.due("MR: emits(5, " + a + ", 0)", x.emits(5, a, 0), 0);
            for (int b = 0; b < 4; b++) {
                Check.due("MP: emits(3, " + a + ", " + b + ")", x.emits(3, a, b), 0);
            }
        }
        for (int v = 3; v <= 5; v++) {
            Check.due("step(" + v + ", 2)", x.step(v, 2), -13);
        }
    }

    private static void insertsEmitAnyLetter() {
        Check.sentence("IL and IR emit any letter with the score 0");
        FoldedFamily x = Check.built(2, "()().");
        for (int v = 0; x.kind(v) != Check.NONE; v++) {
            for (int a = 0; a < 4 && (x.kind(v) == 5 || x.kind(v) == 6); a++) {
                Check.due("emits(" + v + ", " + a + ", 0)", x.emits(v, a, 0), 0);
            }
        }
        FoldedFamily y = Check.built(4, ".", 0);
        y.feed(0b11100100, 4);
        for (int i = 0; i < 4; i++) {
            Check.due("value(5, " + i + ", 1): IL, E", y.value(5, i, 1), y.step(5, 1));
            Check.due("value(2, " + i + ", 1): IR, D, E", y.value(2, i, 1),
                    y.step(2, 2) + y.step(4, 1));
        }
    }
}
