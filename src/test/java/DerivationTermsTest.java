/** The edges of the terms: derivations, values, and which derivation is the best. */
public final class DerivationTermsTest {
    public static void main(String[] args) {
        emptyParts();
        endDerivesTheEmptyPart();
        statesWithoutLetters();
        letterAtTheLeft();
        letterAtTheRight();
        letterAtEachEnd();
        partsOfFork();
        greatestScore();
        shortestFirstPart();
        firstTargetOfEquals();
        emptyPartsInDerivations();
        Check.end();
    }

    private static void emptyParts() {
        Check.sentence("A DERIVATION of a part of the text (perhaps empty)");
        FoldedFamily x = Check.built(4, "()()()()", -1, -1, -1, -1, -1, -1, -1, -1);
        int due = x.value(0, 0, 0);
        Check.due("S derives the empty part of no text", due != Check.NONE, true);
        x.feed(0b111001001110010011100100, 12);
        x.feed(0b111001001110010011100100, 12);
        for (int i = 0; i <= 24; i++) {
            Check.due("value(0, " + i + ", 0)", x.value(0, i, 0), due);
        }
        FoldedFamily y = Check.built(1, ".", 7);
        Check.due("S, D, E", y.value(0, 0, 0), y.step(0, 3) + y.step(4, 1));
    }

    private static void endDerivesTheEmptyPart() {
        Check.sentence("E derives the empty part with the score 0");
        FoldedFamily x = Check.built(3, "()()");
        for (int length = 0; length <= 24; length += 12) {
            for (int i = 0; i <= length; i += 4) {
                Check.due("value(11, " + i + ", 0)", x.value(11, i, 0), 0);
                Check.due("value(20, " + i + ", 0)", x.value(20, i, 0), 0);
                for (int d = 1; d <= 12; d += 11) {
                    Check.dueNone("value(11, " + i + ", " + d + ")", x.value(11, i, d));
                    Check.dueNone("value(20, " + i + ", " + d + ")", x.value(20, i, d));
                }
            }
            x.feed(0, 12);
        }
    }

    private static void statesWithoutLetters() {
        Check.sentence("S and D derive what one of their targets derives");
        FoldedFamily x = Check.built(1, ".", 2);
        Check.feedAll(x, "2");
        Check.due("D of no letter: E", x.value(4, 0, 0), x.step(4, 1));
        Check.due("D of a letter: IL, E", x.value(4, 0, 1), x.step(4, 0) + x.step(5, 1));
        Check.due("S of a letter: ML, E", x.value(0, 0, 1),
                x.step(0, 2) + x.emits(3, 2, 0) + x.step(3, 1));
    }

    /** ML of a column with a 2; the text has its 2 at the left end of the part. */
    private static void letterAtTheLeft() {
        Check.sentence("ML and IL a letter and behind it what a target derives");
        FoldedFamily x = Check.built(4, ".", 02222);
        Check.feedAll(x, "2013");
        int match = x.emits(3, 2, 0);
        Check.dueNone("ML of no letter", x.value(3, 0, 0));
        Check.dueNone("IL of no letter", x.value(5, 0, 0));
        Check.dueNone("ML behind the last letter", x.value(3, 4, 0));
        Check.due("ML of one", x.value(3, 0, 1), match + x.step(3, 1));
        Check.due("IL of one", x.value(5, 0, 1), x.step(5, 1));
        Check.due("ML of two: IL behind it", x.value(3, 0, 2),
                match + x.step(3, 0) + x.step(5, 1));
        Check.due("ML of the last", x.value(3, 3, 1), x.emits(3, 3, 0) + x.step(3, 1));
    }

    /** MR of the last column, with a 2; below it a pair of gaps. */
    private static void letterAtTheRight() {
        Check.sentence("MR and IR what a target derives and behind that a letter");
        FoldedFamily x = Check.built(4, "().", 04444, 04444, 02222);
        Check.feedAll(x, "0132");
        int rest = x.step(3, 4) + x.step(9, 2);
        Check.due("kind(3)", x.kind(3), 3);
        Check.dueNone("MR of no letter", x.value(3, 0, 0));
        Check.dueNone("IR of no letter", x.value(5, 0, 0));
        Check.dueNone("MR behind the last letter", x.value(3, 4, 0));
        Check.due("MR of one", x.value(3, 3, 1), x.emits(3, 2, 0) + rest);
        Check.due("MR of the first", x.value(3, 0, 1), x.emits(3, 0, 0) + rest);
        Check.due("IR of one", x.value(5, 3, 1), x.step(5, 4) + x.step(9, 2));
        Check.due("MR of two: IR before it", x.value(3, 2, 2),
                x.emits(3, 2, 0) + Math.max(x.step(3, 0) + x.value(5, 2, 1),
                        x.step(3, 4) + x.value(9, 2, 1)));
    }

    private static void letterAtEachEnd() {
        Check.sentence("MP a letter, what a target derives, and a letter");
        FoldedFamily x = Check.built(4, "()", 01111, 02222);
        x.feed(0b100000000000000000000001, 12);
        int match = x.emits(3, 1, 2);
        Check.dueNone("MP of no letter", x.value(3, 0, 0));
        Check.dueNone("MP of one", x.value(3, 0, 1));
        Check.dueNone("MP of the last", x.value(3, 11, 1));
        Check.due("MP of two", x.value(3, 0, 2), x.emits(3, 1, 0) + x.step(3, 2));
        Check.due("MP of the last two", x.value(3, 10, 2), x.emits(3, 0, 2) + x.step(3, 2));
        Check.due("MP of three: IR between", x.value(3, 1, 3),
                x.emits(3, 0, 0) + x.step(3, 1) + x.step(8, 1));
        Check.due("MP of twelve", x.value(3, 0, 12),
                match + x.step(3, 1) + 9 * x.step(8, 0) + x.step(8, 1));
    }

    /** B puts two parts together; the second may be empty, and so may the first. */
    private static void partsOfFork() {
        Check.sentence("B derives a part that is put together from one of FIRST and one of SECOND");
        FoldedFamily x = Check.built(4, "()()", 0, 01111, 02222, 03333);
        x.feed(0b1110010011100100, 8);
        Check.due("value(3, 0, 4)", x.value(3, 0, 4), x.value(4, 0, 2) + x.value(12, 2, 2));
        Check.due("value(3, 2, 2), first part empty", x.value(3, 2, 2),
                x.value(4, 2, 0) + x.value(12, 2, 2));
        Check.due("value(3, 0, 2), second part empty", x.value(3, 0, 2),
                x.value(4, 0, 2) + x.value(12, 2, 0));
        Check.due("value(3, 8, 0), both empty", x.value(3, 8, 0),
                x.value(4, 8, 0) + x.value(12, 8, 0));
    }

    private static void greatestScore() {
        Check.sentence("The VALUE is the greatest score of a derivation, if there is one");
        FoldedFamily x = Check.built(4, "()()", 0, 01111, 02222, 03333);
        x.feed(0b111001001110010011100100, 12);
        for (int d = 0; d <= 12; d++) {
            int greatest = Check.NONE;
            for (int first = 0; first <= d; first++) {
                greatest = Math.max(greatest, x.value(4, 0, first) + x.value(12, first, d - first));
            }
            Check.due("value(3, 0, " + d + ")", x.value(3, 0, d), greatest);
        }
        Check.dueNone("MP of one letter, which has none", x.value(5, 0, 1));
    }

    /** The B of ()() with two ways to part the letters that score alike. */
    private static void shortestFirstPart() {
        Check.sentence("from B the first part is as short as it can be to attain the value");
        dueShortest(Check.built(1, "()()"), "01", 2, 0, 2);
        dueShortest(Check.built(1, "()()", 4, 4, 4, 4), "10", 1, 0, 1);
        dueShortest(Check.built(2, "()()", 0, 0, 4, 0), "10", 2, 1, 2);
        dueShortest(Check.built(2, "()()", 0, 040, 0, 040), "0101", 3, 1, 2);
        dueShortest(Check.built(3, "()()", 0400, 0440, 040, 044), "11", 2, 0, 2);
    }

    private static void dueShortest(
            FoldedFamily x, String text, int letters, int shorter, int longer) {
        Check.feedAll(x, text);
        x.scan(letters, -1000);
        Check.due(text + ": hit 0 has", x.hit(0, 1), letters);
        Check.due(text + ": the state at place 1", x.derived(0, 1, 0), 3);
        for (int first = 0; first <= letters; first++) {
            int sum = x.value(4, 0, first) + x.value(12, first, letters - first);
            Check.due(text + ": first part " + first + " attains",
                    sum == x.value(3, 0, letters), first == shorter || first == longer);
        }
        Check.due(text + ": state behind B", x.derived(0, 2, 0), 4);
        Check.due(text + ": first part", x.derived(0, 2, 2), shorter);
        int second = 2;
        while (x.derived(0, second, 0) != 12 && second < 30) {
            second++;
        }
        Check.due(text + ": second part begins", x.derived(0, second, 1), shorter);
        Check.due(text + ": second part has", x.derived(0, second, 2), letters - shorter);
    }

    /** ML and MR of a pair of which each row has one letter score alike: ML stands first. */
    private static void firstTargetOfEquals() {
        Check.sentence("from others the step goes to the first of the targets that attain it");
        FoldedFamily x = Check.built(2, "()", 040, 004);
        x.feed(0, 1);
        Check.due("scan", x.scan(1, -1000), 1);
        Check.due("ML", x.value(4, 0, 1) + x.step(0, 3), x.hit(0, 2));
        Check.due("MR", x.value(5, 0, 1) + x.step(0, 4), x.hit(0, 2));
        Check.dueRow("hit 0", Check.derivation(x, 0), "0@0+1 4@0+1 9@1+0");
    }

    /** An empty part begins where the letters before it end: behind the text at its very end. */
    private static void emptyPartsInDerivations() {
        Check.sentence("the parts of a derivation that are empty");
        FoldedFamily x = Check.built(4, "()()", 0, 0, -1, -1);
        Check.feedAll(x, "100");
        x.scan(2, -1000);
        Check.dueRow("SECOND of nothing behind the text", Check.derivation(x, 0),
                "0@1+2 3@1+2 4@1+2 5@1+2 11@2+0 12@3+0 17@3+0 20@3+0");
        x = Check.built(4, "()()", -1, -1, 0, 0);
        Check.feedAll(x, "001");
        x.scan(2, -1000);
        Check.dueRow("FIRST of nothing before the text", Check.derivation(x, 0),
                "0@0+2 3@0+2 4@0+0 8@0+0 11@0+0 12@0+2 14@0+2 20@1+0");
        x = Check.built(4, ".", 02222);
        x.feed(0, 12);
        x.feed(2 << 22, 12);
        x.scan(1, -1000);
        Check.dueRow("E behind a full text", Check.derivation(x, 0), "0@23+1 3@23+1 6@24+0");
    }
}
