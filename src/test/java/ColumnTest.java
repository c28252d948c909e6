/** Promise 2: column, what its letters mean, and what it refuses. */
public final class ColumnTest {
    public static void main(String[] args) {
        marksAreLookedAt();
        atMostEightColumns();
        columnsStandBehindOneAnother();
        bitsTellLettersAndGaps();
        grammarAndHitsGo();
        refusalChangesNothing();
        Check.end();
    }

    private static void marksAreLookedAt() {
        FoldedFamily x = new FoldedFamily(1);
        for (int mark = 0; mark <= 0xFFFF; mark++) {
            boolean good = mark == '(' || mark == ')' || mark == '.';
            Check.due("column(" + mark + ", 0)", x.column((char) mark, 0), good);
        }
        Check.due("build() of ().", Check.family(1, "().").build(), 13);
        Check.due("build() of the marks as they came, ().", x.build(), 13);
    }

    private static void atMostEightColumns() {
        FoldedFamily x = new FoldedFamily(1);
        for (int c = 0; c < 8; c++) {
            Check.due("column " + c, x.column(c < 4 ? '(' : ')', 0), true);
        }
        Check.due("column 8", x.column('.', 0), false);
        Check.due("build() of eight", x.build(), 28);
        Check.due("column 8 again", x.column(')', 0), false);
        Check.due("kind(0) after the refusal", x.kind(0), 0);
        x.clear();
        Check.due("column after clear", x.column('.', 0), true);
    }

    private static void columnsStandBehindOneAnother() {
        FoldedFamily x = Check.built(1, "..", 2, 3);
        Check.due("emits(3, 2, 0), first column", x.emits(3, 2, 0), 5);
        Check.due("emits(3, 3, 0), first column", x.emits(3, 3, 0), -3);
        Check.due("emits(6, 3, 0), second column", x.emits(6, 3, 0), 5);
        Check.due("emits(6, 2, 0), second column", x.emits(6, 2, 0), -3);
    }

    /** Row r has what stands in octal digit r; rows that are not there do not count. */
    private static void bitsTellLettersAndGaps() {
        FoldedFamily x = Check.built(4, ".", 03210);
        for (int a = 0; a < 4; a++) {
            Check.due("one row each: emits(3, " + a + ", 0)", x.emits(3, a, 0), 0);
        }
        x = Check.built(3, ".", 03210);
        Check.due("three rows: emits(3, 2, 0)", x.emits(3, 2, 0), 1);
        Check.due("three rows: emits(3, 3, 0)", x.emits(3, 3, 0), -7);
        for (int gap = 4; gap < 8; gap++) {
            x = Check.built(1, ".", gap);
            Check.due("gap " + gap + ": step to ML", x.step(0, 2), -19);
            Check.due("gap " + gap + ": step to D", x.step(0, 3), -11);
        }
        x = Check.built(4, ".", -1);
        Check.due("all gaps: step to D", x.step(0, 3), -6);
        x = Check.built(4, ".", 0xFFFFF000);
        Check.due("bits above the rows: emits(3, 0, 0)", x.emits(3, 0, 0), 10);
        Check.due("bits above the rows: step to ML", x.step(0, 2), -6);
    }

    private static void grammarAndHitsGo() {
        FoldedFamily x = Check.built(1, "");
        Check.feedAll(x, "01");
        Check.due("scan", x.scan(1, -1000), 2);
        Check.due("column", x.column('.', 0), true);
        Check.due("kind(0)", x.kind(0), Check.NONE);
        Check.due("hit(0, 0)", x.hit(0, 0), Check.NONE);
        Check.due("scan without a grammar", x.scan(1, -1000), Check.NONE);
        Check.due("build()", x.build(), 7);
        Check.due("hit(0, 0) after build", x.hit(0, 0), Check.NONE);
        Check.due("feed: the text is still there", x.feed(0, 1), 3);
    }

    private static void refusalChangesNothing() {
        FoldedFamily x = Check.built(1, "");
        Check.feedAll(x, "01");
        x.scan(1, -1000);
        Check.due("column x", x.column('x', 0), false);
        Check.due("kind(3)", x.kind(3), 8);
        Check.due("hit(1, 0)", x.hit(1, 0), 1);
        Check.due("derived(1, 0, 1)", x.derived(1, 0, 1), 1);
        Check.due("build(): no column came", x.build(), 4);
    }
}
