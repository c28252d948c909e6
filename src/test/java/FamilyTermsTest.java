/** The edges of the terms: letters, rows, columns, marks, the text, the tree, states and steps. */
public final class FamilyTermsTest {
    public static void main(String[] args) {
        letters();
        mostRowsAndColumns();
        gapsAlone();
        balancedMarks();
        mostLettersOfText();
        end();
        left();
        right();
        both();
        fork();
        numbersOfNodes();
        numbersOfStates();
        stepsFromInsertsAndEnds();
        Check.end();
    }

    private static void dueKinds(String marks, String kinds) {
        Check.dueRow("kinds of " + marks, Check.row(Check.built(1, marks)::kind), kinds);
    }

    private static void letters() {
        Check.sentence("LETTERS are 0 .. 3");
        for (int a = 0; a < 4; a++) {
            FoldedFamily x = Check.built(1, ".", a);
            x.feed(0b11100100, 4);
            for (int b = 0; b < 4; b++) {
                int score = a == b ? 5 : -3;
                Check.due("column " + a + ": emits(3, " + b + ", 0)", x.emits(3, b, 0), score);
                Check.due("column " + a + ": value(3, " + b + ", 1)", x.value(3, b, 1), score - 5);
            }
            Check.dueNone("column " + a + ": emits(3, 4, 0)", x.emits(3, 4, 0));
            Check.dueNone("column " + a + ": emits(3, -1, 0)", x.emits(3, -1, 0));
        }
    }

    /** In column c row r has the letter c + r, so that every letter stands once in each column. */
    private static void mostRowsAndColumns() {
        Check.sentence("A FAMILY has ROWS (1 .. 4) and COLUMNS (at most 8)");
        FoldedFamily x = new FoldedFamily(4);
        for (int c = 0; c < 8; c++) {
            int letters = 0;
            for (int row = 0; row < 4; row++) {
                letters |= (c + row) % 4 << 3 * row;
            }
            x.column(c % 2 == 0 ? '(' : ')', letters);
        }
        Check.due("build()", x.build(), 43);
        int[] pairs = {5, 16, 27, 36};
        for (int v : pairs) {
            Check.due("kind(" + v + ")", x.kind(v), 1);
            for (int a = 0; a < 4; a++) {
                Check.due("emits(" + v + ", " + a + ", next)", x.emits(v, a, (a + 1) % 4), 5);
                Check.due("emits(" + v + ", " + a + ", same)", x.emits(v, a, a), -3);
            }
        }
        x = Check.built(1, ".", 3);
        Check.due("one row, one column: emits(3, 3, 0)", x.emits(3, 3, 0), 5);
    }

    private static void gapsAlone() {
        Check.sentence("in a column each row has a letter or a GAP");
        FoldedFamily x = Check.built(4, "(...)...", -1, -1, -1, -1, -1, -1, -1, -1);
        for (int v = 0; x.kind(v) != Check.NONE; v++) {
            for (int a = 0; a < 4 && x.kind(v) <= 3 && x.kind(v) > 0; a++) {
                Check.due("emits(" + v + ", " + a + ", " + a + ")", x.emits(v, a, a), 0);
            }
        }
        Check.due("step(0, 3), to D", x.step(0, 3), -6);
        Check.due("step(0, 2), to MR", x.step(0, 2), -24);
    }

    private static void balancedMarks() {
        Check.sentence("each ) closes the latest ( that is still open");
        FoldedFamily x = Check.built(1, "(())", 0, 1, 2, 3);
        Check.due("columns 0 and 3", x.emits(3, 0, 3), 7);
        Check.due("columns 1 and 2", x.emits(9, 1, 2), 7);
        Check.due("not 0 and 2", x.emits(3, 0, 2), -1);
        x = Check.built(1, "(()())", 0, 1, 2, 3, 0, 1);
        Check.due("columns 0 and 5", x.emits(3, 0, 1), 7);
        Check.due("columns 1 and 2", x.emits(11, 1, 2), 7);
        Check.due("columns 3 and 4", x.emits(20, 3, 0), 7);
        Check.dueNone("build() of )", Check.family(1, ")").build());
        Check.dueNone("build() of ())", Check.family(1, "())").build());
        Check.dueNone("build() of )(", Check.family(1, ")(").build());
        Check.sentence("and none is open at the end");
        Check.dueNone("build() of (", Check.family(1, "(").build());
        Check.dueNone("build() of ()(", Check.family(1, "()(").build());
        Check.dueNone("build() of (()", Check.family(1, "(()").build());
        Check.due("build() of (((())))", Check.family(1, "(((())))").build(), 28);
        Check.due("build() of none", Check.family(1, "").build(), 4);
        Check.due("build() of ........", Check.family(1, "........").build(), 28);
    }

    private static void mostLettersOfText() {
        Check.sentence("The TEXT is a row of at most 24 letters, numbered from 0");
        FoldedFamily x = Check.built(1, ".", 2);
        x.feed(2, 12);
        x.feed(2 << 22, 12);
        for (int i = 0; i < 24; i++) {
            int due = i == 0 || i == 23 ? 0 : -8;
            Check.due("value(3, " + i + ", 1)", x.value(3, i, 1), due);
        }
        Check.dueNone("value(3, 24, 1)", x.value(3, 24, 1));
        Check.dueNone("value(3, -1, 1)", x.value(3, -1, 1));
        Check.dueNone("feed(2, 1)", x.feed(2, 1));
    }

    private static void end() {
        Check.sentence("END, if there are none (i > j)");
        dueKinds("", "0 5 6 8");
        FoldedFamily x = Check.built(1, "");
        Check.due("node(3)", x.node(3), 1);
        Check.dueNone("kind(4)", x.kind(4));
        dueKinds(".", "0 5 6 2 4 5 8");
        dueKinds("()", "0 5 6 1 2 3 4 5 6 8");
    }

    private static void left() {
        Check.sentence("LEFT of column i, if i is not paired");
        dueKinds("..", "0 5 6 2 4 5 2 4 5 8");
        dueKinds("........", "0 5 6" + " 2 4 5".repeat(8) + " 8");
        FoldedFamily x = Check.built(1, "...", 0, 1, 2);
        for (int c = 0; c < 3; c++) {
            Check.due("letter of column " + c, x.emits(3 + 3 * c, c, 0), 5);
        }
        dueKinds(".()", "0 5 6 2 4 5 1 2 3 4 5 6 8");
    }

    private static void right() {
        Check.sentence("else RIGHT of column j, if j is not paired");
        dueKinds(".().", "0 5 6 2 4 5 3 4 6 1 2 3 4 5 6 8");
        FoldedFamily x = Check.built(1, "()..", 0, 0, 1, 2);
        Check.due("kind(3) of ()..", x.kind(3), 3);
        Check.due("the last column goes first", x.emits(3, 2, 0), 5);
        Check.due("then the one before it", x.emits(6, 1, 0), 5);
        dueKinds("()......", "0 5 6" + " 3 4 6".repeat(6) + " 1 2 3 4 5 6 8");
        dueKinds("()().", "0 5 6 3 4 6 7 0 1 2 3 4 5 6 8 0 5 1 2 3 4 5 6 8");
    }

    private static void both() {
        Check.sentence("else BOTH of i and j, if these are paired");
        dueKinds("(.)", "0 5 6 1 2 3 4 5 6 2 4 5 8");
        dueKinds("(((())))", "0 5 6" + " 1 2 3 4 5 6".repeat(4) + " 8");
        FoldedFamily x = Check.built(1, "(......)", 2, 0, 0, 0, 0, 0, 0, 1);
        Check.due("the outermost columns", x.emits(3, 2, 1), 7);
    }

    private static void fork() {
        Check.sentence("else, i being paired with k, FORK with two children");
        dueKinds("()()", "0 5 6 7 0 1 2 3 4 5 6 8 0 5 1 2 3 4 5 6 8");
        dueKinds("(.)()", "0 5 6 7 0 1 2 3 4 5 6 2 4 5 8 0 5 1 2 3 4 5 6 8");
        dueKinds("().()", "0 5 6 7 0 1 2 3 4 5 6 8 0 5 2 4 5 1 2 3 4 5 6 8");
        dueKinds("()()()()", "0 5 6" + " 7 0 1 2 3 4 5 6 8 0 5".repeat(3) + " 1 2 3 4 5 6 8");
        FoldedFamily x = Check.built(1, "(())()", 0, 1, 2, 3, 2, 0);
        Check.due("FIRST of columns 0 .. 3", x.emits(5, 0, 3), 7);
        Check.due("and below it", x.emits(11, 1, 2), 7);
        Check.due("SECOND of columns 4 and 5", x.emits(20, 2, 0), 7);
        Check.due("FIRST from B", x.target(3, 0), 4);
        Check.due("SECOND from B", x.target(3, 1), 18);
    }

    /** A fork within FIRST is numbered to its end before SECOND of the outer one. */
    private static void numbersOfNodes() {
        Check.sentence("Nodes are numbered from 0: what is below FIRST before SECOND");
        FoldedFamily x = Check.built(1, "(()())()");
        dueKinds("(()())()", "0 5 6 7 0 1 2 3 4 5 6"
                + " 7 0 1 2 3 4 5 6 8 0 5 1 2 3 4 5 6 8"
                + " 0 5 1 2 3 4 5 6 8");
        Check.due("ROOT", x.node(0), 0);
        Check.due("S of the inner FIRST", x.node(12), 5);
        Check.due("S of the inner SECOND", x.node(20), 8);
        Check.due("S of the outer SECOND", x.node(29), 11);
        Check.due("second target of the outer B", x.target(3, 1), 29);
        Check.due("second target of the inner B", x.target(11, 1), 20);
        Check.due("the last node of the most", Check.built(1, "()()()()").node(42), 17);
    }

    private static void numbersOfStates() {
        Check.sentence("They are numbered from 0, in the order of the nodes");
        for (String marks : new String[] {"", "(.)", "().", "()()()()"}) {
            FoldedFamily x = Check.family(1, marks);
            int states = x.build();
            Check.due("S of ROOT of " + marks, x.kind(0), 0);
            for (int v = 1; v < states; v++) {
                int step = x.node(v) - x.node(v - 1);
                Check.due("node of " + v + " follows", step == 0 || step == 1, true);
            }
        }
    }

    private static void stepsFromInsertsAndEnds() {
        Check.sentence("from IR: itself, then those of the child; from E: none");
        FoldedFamily x = Check.built(1, "(.).");
        Check.dueRow("IR of ROOT", Check.row(k -> x.target(2, k)), "2 3 4");
        Check.dueRow("IR of RIGHT", Check.row(k -> x.target(5, k)), "5 6 7 8 9");
        Check.dueRow("IR of BOTH", Check.row(k -> x.target(11, k)), "11 12 13");
        Check.dueRow("E", Check.row(k -> x.target(15, k)), "");
        Check.due("kind of E", x.kind(15), 8);
        Check.sentence("from IL: the inserts of its own node, then those of the child");
        Check.dueRow("IL of ROOT", Check.row(k -> x.target(1, k)), "1 2 3 4");
        Check.dueRow("IL of BOTH", Check.row(k -> x.target(10, k)), "10 11 12 13");
        Check.dueRow("IL of LEFT", Check.row(k -> x.target(14, k)), "14 15");
    }
}
