/** Promise 14: what is told of a hit. */
public final class HitTest {
    public static void main(String[] args) {
        FoldedFamily x = Check.built(1, ".", 2);
        Check.feedAll(x, "0212");
        Check.due("hit(0, 0) before a scan", x.hit(0, 0), Check.NONE);
        x.scan(1, -1000);
        dueHit(x, 0, "1 1 -11 3");
        dueHit(x, 1, "3 1 -11 3");
        dueHit(x, 2, "0 1 -19 3");
        dueHit(x, 3, "2 1 -19 3");
        dueHit(x, 4, "");
        dueHit(x, -1, "");
        wrongInputsAreRefused(x);
        longestDerivation();
        hitsStayWhenNothingChanges();
        Check.end();
    }

    private static void dueHit(FoldedFamily x, int k, String due) {
        Check.dueRow("hit " + k, Check.row(what -> what < 4 ? x.hit(k, what) : Check.NONE), due);
    }

    private static void wrongInputsAreRefused(FoldedFamily x) {
        int[] wrong = {-1, 4, 5, Integer.MIN_VALUE, Integer.MAX_VALUE};
        for (int no : wrong) {
            Check.due("hit(0, " + no + ")", x.hit(0, no), Check.NONE);
            Check.due("hit(" + no + ", 0)", x.hit(no, 0), Check.NONE);
            Check.due("hit(" + no + ", 3)", x.hit(no, 3), Check.NONE);
            Check.due("hit(" + no + ", " + no + ")", x.hit(no, no), Check.NONE);
        }
    }

    /** Rows of gaps alone: every node once, and every letter from an insert. */
    private static void longestDerivation() {
        FoldedFamily x = Check.built(4, "()()()()", -1, -1, -1, -1, -1, -1, -1, -1);
        x.feed(0, 12);
        int longest = 0;
        x.scan(12, -1000);
        for (int k = 0; x.hit(k, 0) != Check.NONE; k++) {
            longest = Math.max(longest, x.hit(k, 3));
        }
        Check.due("states of one letter's derivation", longest, 19);
        x = Check.built(4, "()()()()");
        x.feed(0, 12);
        x.scan(12, -1000);
        Check.due("letters", x.hit(0, 1), 8);
        Check.due("states", x.hit(0, 3), 18);
    }

    private static void hitsStayWhenNothingChanges() {
        FoldedFamily x = Check.built(2, "(.)", 0, 011, 022);
        Check.feedAll(x, "0120");
        x.scan(3, -5);
        String due = "0 3 " + x.value(0, 0, 3) + " 4";
        dueHit(x, 0, due);
        x.value(3, 1, 2);
        x.value(0, 4, 0);
        x.emits(3, 0, 0);
        x.target(0, 0);
        x.derived(0, 2, 0);
        x.derived(7, 2, 0);
        dueHit(x, 0, due);
    }
}
