/** Promise 2: column, what its letters mean, and what it refuses. */
public final class ColumnTest {
    public static void main(String[] args) {
        columnsStandBehindOneAnother();
        bitsOfEachRow();
        bitsOfNoRow();
        lettersAndGaps();
        grammarGoes();
        hitsGo();
        textStays();
        wrongMarksAreRefused();
        ninthColumnIsRefused();
        Check.end();
    }

    private static void columnsStandBehindOneAnother() {
        Check.sentence("2: Adds a column behind the others with this mark");
        FoldedFamily x = Check.built(1, "........", 2, 3, 0, 1, 2, 3, 0, 1);
        for (int c = 0; c < 8; c++) {
            for (int a = 0; a < 4; a++) {
                int due = a == (c + 2) % 4 ? 5 : -3;
                Check.due("column " + c + ": emits " + a, x.emits(3 + 3 * c, a, 0), due);
            }
        }
        Check.due("build() of ()", Check.family(1, "()").build(), 10);
        Check.dueNone("build() of )(", Check.family(1, ")(").build());
        Check.due("build() of ()(.)", Check.family(1, "()(.)").build(), 24);
    }

    /** One row has a letter and the other three have gaps: only that row is in ML. */
    private static void bitsOfEachRow() {
        Check.sentence("2: bits 3 * r .. 3 * r + 2 of letters say what row r has");
        for (int row = 0; row < 4; row++) {
            for (int a = 0; a < 4; a++) {
                int letters = 07777 & ~(7 << 3 * row) | a << 3 * row;
                FoldedFamily x = Check.built(4, ".", letters);
                Check.due("row " + row + ": step to ML", x.step(0, 2), -16);
                Check.due("row " + row + ": step to D", x.step(0, 3), -8);
                Check.due("row " + row + ": emits(3, " + a + ", 0)", x.emits(3, a, 0), 5);
                Check.due("row " + row + ": another", x.emits(3, (a + 1) % 4, 0), -3);
            }
        }
        FoldedFamily x = Check.built(4, ".", 03210);
        for (int a = 0; a < 4; a++) {
            Check.due("one row each: emits(3, " + a + ", 0)", x.emits(3, a, 0), 0);
        }
    }

    private static void bitsOfNoRow() {
        Check.sentence("2: bits of rows that are not there say nothing");
        for (int rows = 1; rows <= 4; rows++) {
            FoldedFamily x = Check.built(rows, ".", -1 << 3 * rows);
            Check.due(rows + " rows: step to ML", x.step(0, 2), PlainFamily.log(rows + 1, rows + 4));
            Check.due(rows + " rows: emits(3, 0, 0)", x.emits(3, 0, 0),
                    PlainFamily.log(4 * (rows + 1), rows + 4));
            x = Check.built(rows, ".", (1 << 3 * rows) - 1);
            Check.due(rows + " rows: step to D", x.step(0, 3), PlainFamily.log(rows + 1, rows + 4));
            Check.due(rows + " rows: emits(3, 0, 0)", x.emits(3, 0, 0), 0);
        }
        FoldedFamily x = Check.built(4, ".", Integer.MIN_VALUE);
        Check.due("the sign: emits(3, 0, 0)", x.emits(3, 0, 0), 10);
    }

    private static void lettersAndGaps() {
        Check.sentence("2: 0 .. 3 a letter");
        for (int letter = 0; letter <= 3; letter++) {
            FoldedFamily x = Check.built(1, ".", letter);
            Check.due("letter " + letter + ": step to ML", x.step(0, 2), -11);
            Check.due("letter " + letter + ": step to D", x.step(0, 3), -19);
            Check.due("letter " + letter + ": emits", x.emits(3, letter, 0), 5);
        }
        Check.sentence("2: 4 .. 7 a gap");
        for (int gap = 4; gap <= 7; gap++) {
            FoldedFamily x = Check.built(1, ".", gap);
            Check.due("gap " + gap + ": step to ML", x.step(0, 2), -19);
            Check.due("gap " + gap + ": step to D", x.step(0, 3), -11);
            Check.due("gap " + gap + ": emits(3, 3, 0)", x.emits(3, 3, 0), 0);
            Check.due("gap " + gap + ": emits(3, 0, 0)", x.emits(3, 0, 0), 0);
        }
        FoldedFamily x = Check.built(4, ".", -1);
        Check.due("four gaps: step to D", x.step(0, 3), -6);
    }

    private static FoldedFamily withHits() {
        FoldedFamily x = Check.built(1, "");
        Check.feedAll(x, "01");
        Check.due("scan(1, -1000)", x.scan(1, -1000), 2);
        return x;
    }

    private static void grammarGoes() {
        Check.sentence("2: Answers true, and there is no grammar any more");
        FoldedFamily x = withHits();
        Check.due("column", x.column('.', 0), true);
        Check.dueNoGrammar(x);
        Check.due("build()", x.build(), 7);
    }

    private static void hitsGo() {
        Check.sentence("2: and no hit any more");
        FoldedFamily x = withHits();
        Check.due("hit(0, 0)", x.hit(0, 0), 0);
        x.column('.', 0);
        Check.dueNoHits(x);
        x.build();
        Check.dueNoHits(x);
    }

    private static void textStays() {
        Check.sentence("2: column takes no text");
        FoldedFamily x = withHits();
        x.column('.', 0);
        Check.due("feed(0, 1)", x.feed(0, 1), 3);
    }

    private static void wrongMarksAreRefused() {
        Check.sentence("2: refused, false, when mark is not ( ) or .");
        FoldedFamily x = withHits();
        for (int mark = 0; mark <= Character.MAX_VALUE; mark++) {
            if (mark % 500 == 0) {
                x = withHits();
            }
            if ("().".indexOf(mark) < 0) {
                Check.due("column(" + mark + ", 0)", x.column((char) mark, 0), false);
            }
        }
        Check.due("the last of the hits stays", x.hit(1, 0), 1);
        for (char mark : "().".toCharArray()) {
            Check.due("column(" + mark + ", 0)", x.column(mark, 0), true);
        }
        Check.due("build(): only the three came", x.build(), 13);
    }

    private static void ninthColumnIsRefused() {
        Check.sentence("2: refused, false, when 8 columns are there");
        FoldedFamily x = new FoldedFamily(1);
        for (int c = 0; c < 8; c++) {
            Check.due("column " + c, x.column(c < 4 ? '(' : ')', 0), true);
        }
        Check.due("column 8", x.column('.', 0), false);
        Check.due("column 8, no mark either", x.column('x', 0), false);
        Check.due("build() of eight", x.build(), 28);
        x.feed(0, 2);
        x.scan(1, -1000);
        Check.due("column 8 again", x.column(')', 3), false);
        Check.due("kind(27): the grammar stays", x.kind(27), 8);
        Check.due("hit(1, 0): the hits stay", x.hit(1, 0), 1);
        Check.due("build() again", x.build(), 28);
        x.clear();
        for (int c = 0; c < 8; c++) {
            Check.due("column " + c + " after clear", x.column('.', 0), true);
        }
        Check.due("column 8 after clear", x.column('.', 0), false);
    }
}
