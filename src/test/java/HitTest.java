/** Promise 14: what is told of a hit. */
public final class HitTest {
    public static void main(String[] args) {
        whatIsTold();
        fewestAndMostStates();
        noSuchHit();
        wrongWhat();
        hitsStayWhenNothingChanges();
        Check.end();
    }

    private static void dueHit(FoldedFamily x, int k, String due) {
        Check.dueRow("hit " + k, Check.row(what -> x.hit(k, what)), due);
    }

    private static void whatIsTold() {
        Check.sentence("14: where it begins (0), how many letters (1), its score (2), states (3)");
        FoldedFamily x = Check.scannedColumn();
        dueHit(x, 0, "1 1 -11 3");
        dueHit(x, 1, "3 1 -11 3");
        dueHit(x, 2, "0 1 -19 3");
        dueHit(x, 3, "2 1 -19 3");
    }

    /** Rows of gaps alone: every node once, and a letter from an insert. */
    private static void fewestAndMostStates() {
        Check.sentence("14: how many states its best derivation has (3)");
        FoldedFamily x = Check.built(4, "()()()()", -1, -1, -1, -1, -1, -1, -1, -1);
        x.feed(0, 12);
        x.scan(12, -1000);
        Check.due("hit 0 has one letter", x.hit(0, 1), 1);
        Check.due("states of gaps and an insert", x.hit(0, 3), 19);
        x = Check.built(4, "()()()()");
        x.feed(0, 12);
        x.scan(12, -1000);
        Check.due("letters", x.hit(0, 1), 8);
        Check.due("states of pairs", x.hit(0, 3), 18);
        x = Check.built(4, "");
        x.feed(0, 1);
        x.scan(12, -1000);
        Check.due("states of one insert", x.hit(0, 3), 3);
    }

    private static void noSuchHit() {
        Check.sentence("14: NONE when there is no such hit");
        FoldedFamily x = Check.built(1, ".", 2);
        Check.feedAll(x, "0212");
        Check.dueNone("hit(0, 0) before a scan", x.hit(0, 0));
        x.scan(1, -11);
        Check.due("hit(1, 0)", x.hit(1, 0), 3);
        for (int what = 0; what <= 3; what++) {
            for (int k : Check.outside(1)) {
                Check.dueNone("hit(" + k + ", " + what + ")", x.hit(k, what));
            }
        }
        x.scan(1, 0);
        Check.dueNone("hit(0, 0) of none", x.hit(0, 0));
        Check.dueNone("hit(0, 3) of none", x.hit(0, 3));
        x.erase();
        x.feed(0, 12);
        x.feed(0, 12);
        x.scan(1, -1000);
        Check.due("hit(23, 0)", x.hit(23, 0), 23);
        Check.dueNone("hit(24, 0)", x.hit(24, 0));
        Check.dueNone("hit(24, 3)", x.hit(24, 3));
    }

    private static void wrongWhat() {
        Check.sentence("14: NONE when what is not 0 .. 3");
        FoldedFamily x = Check.scannedColumn();
        for (int k = 0; k < 4; k++) {
            for (int what : Check.outside(3)) {
                Check.dueNone("hit(" + k + ", " + what + ")", x.hit(k, what));
            }
        }
        Check.dueNone("hit(4, 4)", x.hit(4, 4));
        Check.dueNone("hit(-1, -1)", x.hit(-1, -1));
    }

    private static void hitsStayWhenNothingChanges() {
        Check.sentence("14: a call that answers and changes nothing takes no hit");
        FoldedFamily x = Check.built(2, "(.)", 0, 011, 022);
        Check.feedAll(x, "0120");
        x.scan(3, -5);
        String due = "0 3 " + x.value(0, 0, 3) + " 4";
        dueHit(x, 0, due);
        x.value(3, 1, 2);
        x.value(0, 4, 0);
        x.emits(3, 0, 0);
        x.target(0, 0);
        x.step(0, 0);
        x.kind(0);
        x.node(0);
        x.derived(0, 2, 0);
        x.derived(7, 2, 0);
        dueHit(x, 0, due);
    }
}
