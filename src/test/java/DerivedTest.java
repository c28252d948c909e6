/** Promise 15: the best derivation of a hit, state by state. */
public final class DerivedTest {
    public static void main(String[] args) {
        oneColumn();
        folded();
        insertsAndDeletions();
        firstBeforeSecond();
        noSuchHit();
        noSuchPlace();
        wrongWhat();
        Check.end();
    }

    private static void oneColumn() {
        Check.sentence("15: written from the S of ROOT on, each state before what it steps to");
        FoldedFamily x = Check.scannedColumn();
        Check.dueRow("hit 0", Check.derivation(x, 0), "0@1+1 3@1+1 6@2+0");
        Check.dueRow("hit 3", Check.derivation(x, 3), "0@2+1 3@2+1 6@3+0");
        Check.dueRow("hit 1, E behind the last letter", Check.derivation(x, 1),
                "0@3+1 3@3+1 6@4+0");
    }

    /** . ( . ) . with one letter each: LEFT, RIGHT, BOTH, LEFT, END. */
    private static void folded() {
        FoldedFamily x = Check.built(4, ".(.).", 0, 01111, 02222, 03333, 01111);
        Check.feedAll(x, "301231");
        x.scan(12, 0);
        Check.dueRow("hit 0", Check.derivation(x, 0),
                "0@1+5 3@1+5 6@2+4 9@2+3 15@3+1 18@4+0");
        Check.due("hit(0, 3)", x.hit(0, 3), 6);
    }

    /** Gaps and inserts: windows that are no row of the family, each with its states. */
    private static void insertsAndDeletions() {
        Check.sentence("15: the state, where its part begins, how many letters that has");
        FoldedFamily x = Check.built(2, "");
        Check.feedAll(x, "012");
        x.scan(1, -1000);
        Check.dueRow("S, IR, E", Check.derivation(x, 2), "0@2+1 2@2+1 3@2+0");
        x = Check.built(4, "..", 04444, 02222);
        Check.feedAll(x, "02");
        x.scan(1, -1000);
        Check.dueRow("S, D, ML, E", Check.derivation(x, 0), "0@1+1 4@1+1 6@1+1 9@2+0");
        x = Check.built(4, "()", 04444, 03333);
        Check.feedAll(x, "13");
        x.scan(2, -1000);
        Check.dueRow("S, MR, E", Check.derivation(x, 0), "0@1+1 5@1+1 9@1+0");
    }

    private static void firstBeforeSecond() {
        Check.sentence("15: what is below FIRST before SECOND");
        FoldedFamily x = Check.built(4, "()()", 0, 01111, 02222, 03333);
        Check.feedAll(x, "130123");
        x.scan(12, 0);
        Check.dueRow("hit 0", Check.derivation(x, 0),
                "0@2+4 3@2+4 4@2+2 5@2+2 11@3+0 12@4+2 14@4+2 20@5+0");
    }

    private static void noSuchHit() {
        Check.sentence("15: NONE when there is none: no such hit");
        FoldedFamily x = Check.built(1, ".", 2);
        Check.feedAll(x, "0212");
        Check.dueNone("derived(0, 0, 0) before a scan", x.derived(0, 0, 0));
        x.scan(1, -11);
        Check.due("derived(1, 0, 1)", x.derived(1, 0, 1), 3);
        for (int k : Check.outside(1)) {
            for (int what = 0; what < 3; what++) {
                Check.dueNone("derived(" + k + ", 0, " + what + ")", x.derived(k, 0, what));
                Check.dueNone("derived(" + k + ", 2, " + what + ")", x.derived(k, 2, what));
            }
        }
        x.scan(1, 0);
        Check.dueNone("derived(0, 0, 0) of no hits", x.derived(0, 0, 0));
    }

    private static void noSuchPlace() {
        Check.sentence("15: NONE when there is none: no state at place n");
        FoldedFamily x = Check.scannedColumn();
        Check.due("derived(1, 2, 0), the last", x.derived(1, 2, 0), 6);
        Check.due("derived(1, 2, 2)", x.derived(1, 2, 2), 0);
        for (int n : Check.outside(2)) {
            for (int what = 0; what < 3; what++) {
                Check.dueNone("derived(1, " + n + ", " + what + ")", x.derived(1, n, what));
            }
        }
        x = Check.built(4, "()()", 0, 01111, 02222, 03333);
        Check.feedAll(x, "12012331");
        x.scan(12, -1000);
        for (int k = 0; x.hit(k, 0) != Check.NONE; k++) {
            int states = x.hit(k, 3);
            Check.due("hit " + k + " ends with E", x.derived(k, states - 1, 0), 20);
            Check.dueNone("behind the last of hit " + k, x.derived(k, states, 0));
            Check.dueNone("before the first of hit " + k, x.derived(k, -1, 0));
        }
    }

    private static void wrongWhat() {
        Check.sentence("15: NONE when what is not 0 .. 2");
        FoldedFamily x = Check.scannedColumn();
        for (int what : Check.outside(2)) {
            for (int n = 0; n < 3; n++) {
                Check.dueNone("derived(0, " + n + ", " + what + ")", x.derived(0, n, what));
            }
            Check.dueNone("derived(4, 3, " + what + ")", x.derived(4, 3, what));
        }
    }
}
