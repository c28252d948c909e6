import java.util.ArrayList;
import java.util.List;
import java.util.Random;
import java.util.function.Consumer;

/** Promises 1 to 15 together: runs of up to 512 calls beside the plain reading of the document. */
public final class ReferenceTest {
    private static final int[] ODD = {
        Integer.MIN_VALUE, -1000001, -1000000, -1, 0, 1, 2, 3, 4, 7, 8, 12, 13, 24, 25, 43,
        1 << 20, Integer.MAX_VALUE - 1, Integer.MAX_VALUE};

    private static final char[] ODD_MARKS = {'x', '[', ']', ',', '/', ' ', 0, 255, 0xFFFF, '\''};

    private static final List<String> BALANCED = balancedMarks();

    private final Random random;
    private final int rows;
    private final PlainFamily plain;
    private final String name;
    private final List<Consumer<FoldedFamily>> changes = new ArrayList<>();
    private FoldedFamily program;
    private int calls;
    private boolean renewed;

    private ReferenceTest(int seed, int rows) {
        random = new Random(seed);
        this.rows = rows;
        program = new FoldedFamily(rows);
        plain = new PlainFamily(rows);
        name = "seed " + seed + ", rows " + rows + ": ";
    }

    /** The object for one call: after 512 of them another, which the same changes were made to. */
    private FoldedFamily program() {
        if (calls == Check.MOST_CALLS) {
            program = new FoldedFamily(rows);
            for (Consumer<FoldedFamily> change : changes) {
                change.accept(program);
            }
            calls = Math.min(changes.size(), Check.MOST_CALLS - 1);
            renewed = true;
        }
        calls++;
        return program;
    }

    public static void main(String[] args) {
        int seed = 0;
        for (String marks : BALANCED) {
            new ReferenceTest(seed, seed % 4 + 1).compareWhole(marks);
            seed++;
        }
        for (int run = 0; run < 200 && Check.wrong() < 50; run++) {
            new ReferenceTest(seed, ODD[run % ODD.length]).compareRun();
            seed++;
        }
        Check.end();
    }

    /** All balanced marks of at most 8 columns. */
    private static List<String> balancedMarks() {
        List<String> all = new ArrayList<>();
        addMarks(all, "", 0);
        return all;
    }

    private static void addMarks(List<String> all, String marks, int open) {
        if (open == 0) {
            all.add(marks);
        }
        if (marks.length() < 8) {
            addMarks(all, marks + ".", open);
            addMarks(all, marks + "(", open + 1);
            if (open > 0) {
                addMarks(all, marks + ")", open - 1);
            }
        }
    }

    private void compareWhole(String marks) {
        for (int c = 0; c < marks.length(); c++) {
            addColumn(marks.charAt(c));
        }
        build();
        compareGrammar();
        feed(random.nextInt(), 1 + random.nextInt(12));
        compareValues();
        feed(random.nextInt(), 1 + random.nextInt(12));
        compareValues();
        scan(1 + random.nextInt(12), random.nextInt(160) - 120);
        compareHits();
        scan(12, Integer.MIN_VALUE);
        compareHits();
    }

    private void compareRun() {
        while (!renewed) {
            switch (random.nextInt(16)) {
                case 0 -> seldomColumn();
                case 1 -> refusedColumn();
                case 2 -> newFamily();
                case 3 -> build();
                case 4 -> feed(random.nextInt(), anyBelow(14));
                case 5 -> scan(anyBelow(14), random.nextInt(4) == 0 ? odd() : random.nextInt(200) - 180);
                case 6 -> hit(anyBelow(5), anyBelow(5));
                case 7, 8 -> derived(anyBelow(5), anyBelow(32), anyBelow(4));
                case 9 -> value(anyBelow(45), anyBelow(26), anyBelow(14));
                case 10 -> emits(anyBelow(45), anyBelow(5), anyBelow(5));
                case 11 -> target(anyBelow(45), anyBelow(8));
                case 12 -> step(anyBelow(45), anyBelow(8));
                case 13 -> kindAndNode(anyBelow(45));
                case 14 -> seldomClear();
                default -> seldomErase();
            }
        }
    }

    private void compareGrammar() {
        for (int v = -1; v < 45; v++) {
            kindAndNode(v);
            for (int k = -1; k < 8; k++) {
                target(v, k);
                step(v, k);
            }
            for (int a = -1; a <= 4; a++) {
                for (int b = -1; b <= 4; b++) {
                    emits(v, a, b);
                }
            }
        }
    }

    private void compareValues() {
        for (int v = 0; v < 43; v++) {
            for (int i = 0; i < 26; i++) {
                for (int d = 0; d < 14; d++) {
                    value(v, i, d);
                }
            }
        }
    }

    private void compareHits() {
        for (int k = -1; k < 25; k++) {
            for (int what = -1; what < 5; what++) {
                hit(k, what);
            }
            int last = k < 3 ? 31 : 3;
            for (int n = -1; n < last; n++) {
                for (int what = -1; what < 4; what++) {
                    derived(k, n, what);
                }
            }
        }
    }

    private int odd() {
        return ODD[random.nextInt(ODD.length)];
    }

    private int anyBelow(int bound) {
        return random.nextInt(20) == 0 ? odd() : random.nextInt(bound);
    }

    private void seldomColumn() {
        if (random.nextInt(3) == 0) {
            addColumn("(.)".charAt(random.nextInt(3)));
        }
    }

    private void refusedColumn() {
        addColumn(ODD_MARKS[random.nextInt(ODD_MARKS.length)]);
    }

    private void addColumn(char mark) {
        int letters = random.nextInt();
        Check.due(name + "column(" + mark + ", " + letters + ")",
                program().column(mark, letters), plain.column(mark, letters));
        changes.add(x -> x.column(mark, letters));
    }

    private void newFamily() {
        clear();
        String marks = BALANCED.get(random.nextInt(BALANCED.size()));
        for (int c = 0; c < marks.length(); c++) {
            addColumn(marks.charAt(c));
        }
        build();
    }

    private void seldomClear() {
        if (random.nextInt(3) == 0) {
            clear();
        }
    }

    private void clear() {
        program().clear();
        plain.clear();
        changes.add(FoldedFamily::clear);
    }

    private void seldomErase() {
        if (random.nextInt(3) == 0) {
            program().erase();
            plain.erase();
            changes.add(FoldedFamily::erase);
        }
    }

    private void build() {
        Check.due(name + "build()", program().build(), plain.build());
        changes.add(FoldedFamily::build);
    }

    private void kindAndNode(int v) {
        Check.due(name + "kind(" + v + ")", program().kind(v), plain.kind(v));
        Check.due(name + "node(" + v + ")", program().node(v), plain.node(v));
    }

    private void target(int v, int k) {
        Check.due(name + "target(" + v + ", " + k + ")", program().target(v, k), plain.target(v, k));
    }

    private void step(int v, int k) {
        Check.due(name + "step(" + v + ", " + k + ")", program().step(v, k), plain.step(v, k));
    }

    private void emits(int v, int a, int b) {
        Check.due(name + "emits(" + v + ", " + a + ", " + b + ")",
                program().emits(v, a, b), plain.emits(v, a, b));
    }

    private void feed(int letters, int n) {
        Check.due(name + "feed(" + letters + ", " + n + ")",
                program().feed(letters, n), plain.feed(letters, n));
        changes.add(x -> x.feed(letters, n));
    }

    private void value(int v, int i, int d) {
        Check.due(name + "value(" + v + ", " + i + ", " + d + ")",
                program().value(v, i, d), plain.value(v, i, d));
    }

    private void scan(int width, int threshold) {
        Check.due(name + "scan(" + width + ", " + threshold + ")",
                program().scan(width, threshold), plain.scan(width, threshold));
        changes.add(x -> x.scan(width, threshold));
    }

    private void hit(int k, int what) {
        Check.due(name + "hit(" + k + ", " + what + ")", program().hit(k, what), plain.hit(k, what));
    }

    private void derived(int k, int n, int what) {
        Check.due(name + "derived(" + k + ", " + n + ", " + what + ")",
                program().derived(k, n, what), plain.derived(k, n, what));
    }
}
