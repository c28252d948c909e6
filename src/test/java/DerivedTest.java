/** Promise 15: the best derivation of a hit, state by state. */
public final class DerivedTest {
    public static void main(String[] args) {
        oneColumn();
        folded();
        firstBeforeSecond();
        firstTargetOfEquals();
        shortestFirstPart();
        insertsAndDeletions();
        wrongInputsAreRefused();
        Check.end();
    }

    /** The states of hit k with where their parts begin and how many letters these have. */
    private static String derivation(FoldedFamily x, int k) {
        StringBuilder all = new StringBuilder();
        for (int n = 0; x.derived(k, n, 0) != Check.NONE; n++) {
            all.append(n == 0 ? "" : " ").append(x.derived(k, n, 0)).append('@')
                    .append(x.derived(k, n, 1)).append('+').append(x.derived(k, n, 2));
        }
        return all.toString();
    }

    private static void oneColumn() {
        FoldedFamily x = Check.built(1, ".", 2);
        Check.feedAll(x, "0212");
        x.scan(1, -1000);
        Check.dueRow("hit 0", derivation(x, 0), "0@1+1 3@1+1 6@2+0");
        Check.dueRow("hit 3", derivation(x, 3), "0@2+1 3@2+1 6@3+0");
        Check.dueRow("hit 1", derivation(x, 1), "0@3+1 3@3+1 6@4+0");
    }

    /** . ( . ) . with one letter each: LEFT, RIGHT, BOTH, LEFT, END. */
    private static void folded() {
        FoldedFamily x = Check.built(4, ".(.).", 0, 01111, 02222, 03333, 01111);
        Check.feedAll(x, "301231");
        x.scan(12, 0);
        Check.dueRow("hit 0", derivation(x, 0),
                "0@1+5 3@1+5 6@2+4 9@2+3 15@3+1 18@4+0");
        Check.due("hit(0, 3)", x.hit(0, 3), 6);
    }

    private static void firstBeforeSecond() {
        FoldedFamily x = Check.built(4, "()()", 0, 01111, 02222, 03333);
        Check.feedAll(x, "130123");
        x.scan(12, 0);
        Check.dueRow("hit 0", derivation(x, 0),
                "0@2+4 3@2+4 4@2+2 5@2+2 11@3+0 12@4+2 14@4+2 20@5+0");
    }

    /** ML and MR of a pair of which each row has one letter score alike: ML stands first. */
    private static void firstTargetOfEquals() {
        FoldedFamily x = Check.built(2, "()", 040, 004);
        x.feed(0, 1);
        Check.due("scan", x.scan(1, -1000), 1);
        Check.due("ML", x.value(4, 0, 1) + x.step(0, 3), x.hit(0, 2));
        Check.due("MR", x.value(5, 0, 1) + x.step(0, 4), x.hit(0, 2));
        Check.dueRow("hit 0", derivation(x, 0), "0@0+1 4@0+1 9@1+0");
    }

    /** The B of ()() with two ways to part the letters that score alike. */
    private static void shortestFirstPart() {
        dueShortest(Check.built(1, "()()"), "01", 2, 0, 2);
        dueShortest(Check.built(1, "()()", 4, 4, 4, 4), "10", 1, 0, 1);
        dueShortest(Check.built(2, "()()", 0, 0, 4, 0), "10", 2, 1, 2);
        dueShortest(Check.built(2, "()()", 0, 040, 0, 040), "0101", 3, 1, 2);
        dueShortest(Check.built(3, "()()", 0400, 0440, 040, 044), "11", 2, 0, 2);
    }

    private static void dueShortest(
            FoldedFamily x, String text, int letters, int shorter, int longer) {
        Check.feedAll(x, text);
        x.scan(letters, -1000);
        Check.due(text + ": hit 0 has", x.hit(0, 1), letters);
        Check.due(text + ": the state at place 1", x.derived(0, 1, 0), 3);
        for (int first = 0; first <= letters; first++) {
            int sum = x.value(4, 0, first) + x.value(12, first, letters - first);
            Check.due(text + ": first part " + first + " attains",
                    sum == x.value(3, 0, letters), first == shorter || first == longer);
        }
        Check.due(text + ": state behind B", x.derived(0, 2, 0), 4);
        Check.due(text + ": first part", x.derived(0, 2, 2), shorter);
        int second = 2;
        while (x.derived(0, second, 0) != 12 && second < 30) {
            second++;
        }
        Check.due(text + ": second part begins", x.derived(0, second, 1), shorter);
        Check.due(text + ": second part has", x.derived(0, second, 2), letters - shorter);
    }

    /** Gaps and inserts: windows that are no row of the family, each with its states. */
    private static void insertsAndDeletions() {
        FoldedFamily x = Check.built(2, "");
        Check.feedAll(x, "012");
        x.scan(1, -1000);
        Check.dueRow("S, IR, E", derivation(x, 2), "0@2+1 2@2+1 3@2+0");
        x = Check.built(4, "..", 04444, 02222);
        Check.feedAll(x, "02");
        x.scan(1, -1000);
        Check.dueRow("S, D, ML, E", derivation(x, 0), "0@1+1 4@1+1 6@1+1 9@2+0");
        x = Check.built(4, "()", 04444, 03333);
        Check.feedAll(x, "13");
        x.scan(2, -1000);
        Check.dueRow("S, MR, E", derivation(x, 0), "0@1+1 5@1+1 9@1+0");
    }

    private static void wrongInputsAreRefused() {
        FoldedFamily x = Check.built(1, ".", 2);
        Check.feedAll(x, "02");
        Check.due("derived(0, 0, 0) before a scan", x.derived(0, 0, 0), Check.NONE);
        x.scan(1, -1000);
        for (int wrong : new int[] {-1, 3, 30, Integer.MIN_VALUE, Integer.MAX_VALUE}) {
            Check.due("derived(" + wrong + ", 0, 0)", x.derived(wrong, 0, 0), Check.NONE);
            Check.due("derived(0, " + wrong + ", 0)", x.derived(0, wrong, 0), Check.NONE);
            Check.due("derived(0, 0, " + wrong + ")", x.derived(0, 0, wrong), Check.NONE);
        }
        Check.due("derived(2, 0, 0)", x.derived(2, 0, 0), Check.NONE);
        Check.due("derived(1, 2, 0)", x.derived(1, 2, 0), 6);
        Check.due("derived(1, 2, 2)", x.derived(1, 2, 2), 0);
    }
}
