/** An object is used for at most 512 calls: the last of them is answered as well as the first. */
public final class CallsTest {
    public static void main(String[] args) {
        manyTexts();
        manyFamilies();
        manyScans();
        manyRefusals();
        Check.end();
    }

    private static void manyTexts() {
        Check.sentence("at most 512 calls: feed, erase and value");
        FoldedFamily x = Check.built(1, ".", 3);
        int calls = 2;
        for (int turn = 0; turn < 170; turn++) {
            int letter = turn % 4;
            Check.due("feed " + turn, x.feed(letter, 1), 1);
            Check.due("value " + turn, x.value(3, 0, 1), letter == 3 ? 0 : -8);
            x.erase();
            calls += 3;
        }
        Check.due("calls", calls, Check.MOST_CALLS);
    }

    private static void manyFamilies() {
        Check.sentence("at most 512 calls: column, clear, build and emits");
        FoldedFamily x = new FoldedFamily(1);
        int calls = 0;
        for (int turn = 0; turn < 128; turn++) {
            int letter = turn % 4;
            Check.due("column " + turn, x.column('.', letter), true);
            Check.due("build " + turn, x.build(), 7);
            Check.due("emits " + turn, x.emits(3, 3, 0), letter == 3 ? 5 : -3);
            x.clear();
            calls += 4;
        }
        Check.due("calls", calls, Check.MOST_CALLS);
    }

    private static void manyScans() {
        Check.sentence("at most 512 calls: scan, hit and derived");
        FoldedFamily x = Check.built(1, ".", 2);
        Check.feedAll(x, "0212");
        int calls = 6;
        for (int turn = 0; turn < 126; turn++) {
            Check.due("scan " + turn, x.scan(1 + turn % 12, turn % 2 == 0 ? -19 : -11),
                    turn % 2 == 0 ? 4 : 2);
            Check.due("hit " + turn, x.hit(2, 0), turn % 2 == 0 ? 0 : Check.NONE);
            Check.due("states " + turn, x.hit(1, 3), 3);
            Check.due("derived " + turn, x.derived(1, 1, 1), 3);
            calls += 4;
        }
        Check.due("value", x.value(0, 1, 1), -11);
        Check.due("kind", x.kind(6), 8);
        calls += 2;
        Check.due("calls", calls, Check.MOST_CALLS);
    }

    private static void manyRefusals() {
        Check.sentence("at most 512 calls: those that are refused");
        FoldedFamily x = Check.built(1, "........");
        x.feed(0, 12);
        x.feed(0, 12);
        int calls = 11;
        for (int turn = 0; turn < 125; turn++) {
            Check.due("column " + turn, x.column('.', 0), false);
            Check.dueNone("feed " + turn, x.feed(0, 1));
            Check.dueNone("scan " + turn, x.scan(13, 0));
            Check.dueNone("value " + turn, x.value(0, 0, 13));
            calls += 4;
        }
        Check.due("scan", x.scan(12, -1000) > 0, true);
        calls++;
        Check.due("calls", calls, Check.MOST_CALLS);
    }
}
