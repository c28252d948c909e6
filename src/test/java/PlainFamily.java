import java.math.BigInteger;
import java.util.ArrayList;
import java.util.Comparator;
import java.util.HashMap;
import java.util.List;
import java.util.Map;

/**
 * The document once more, as slowly and as literally as can be, to compare the program with. It
 * shares no code and no way of reckoning with it: nodes and states are objects, values are found
 * from the top down, windows are sorted.
 */
final class PlainFamily {
    static final int NONE = Check.NONE;

    private static final List<String> KINDS =
            List.of("S", "MP", "ML", "MR", "D", "IL", "IR", "B", "E");

    private static final Map<String, List<String>> STATES_OF = Map.of(
            "ROOT", List.of("S", "IL", "IR"),
            "LEFT", List.of("ML", "D", "IL"),
            "RIGHT", List.of("MR", "D", "IR"),
            "BOTH", List.of("MP", "ML", "MR", "D", "IL", "IR"),
            "FORK", List.of("B"),
            "FIRST", List.of("S"),
            "SECOND", List.of("S", "IL"),
            "END", List.of("E"));

    private static final Map<Integer, Integer> LOGS = new HashMap<>();

    private record Column(char mark, int[] contents) {
    }

    private static final class Node {
        final String kind;
        final int number;
        Column left;
        Column right;
        final List<Node> children = new ArrayList<>();
        final List<State> states = new ArrayList<>();

        Node(String kind, int number) {
            this.kind = kind;
            this.number = number;
        }

        List<State> inserts() {
            return states.stream().filter(State::isInsert).toList();
        }

        List<State> others() {
            return states.stream().filter(s -> !s.isInsert()).toList();
        }
    }

    private static final class State {
        final Node node;
        final String kind;
        final int number;
        List<State> targets = List.of();

        State(Node node, String kind, int number) {
            this.node = node;
            this.kind = kind;
            this.number = number;
        }

        boolean isInsert() {
            return kind.equals("IL") || kind.equals("IR");
        }

        boolean emitsLeft() {
            return kind.equals("MP") || kind.equals("ML") || kind.equals("IL");
        }

        boolean emitsRight() {
            return kind.equals("MP") || kind.equals("MR") || kind.equals("IR");
        }
    }

    private record Derived(State state, int begin, int letters) {
    }

    private record Window(int begin, int letters, int score) {
    }

    private final int rows;
    private final List<Column> columns = new ArrayList<>();
    private final List<Node> nodes = new ArrayList<>();
    private final List<State> states = new ArrayList<>();
    private final List<Integer> text = new ArrayList<>();
    private final List<Window> hits = new ArrayList<>();
    private final Map<List<Integer>, Integer> known = new HashMap<>();
    private final Map<Window, List<Derived>> derivations = new HashMap<>();

    PlainFamily(int rows) {
        this.rows = rows < 1 ? 1 : rows > 4 ? 4 : rows;
    }

    boolean column(char mark, int letters) {
        if ("().".indexOf(mark) < 0 || columns.size() == 8) {
            return false;
        }
        int[] contents = new int[rows];
        for (int r = 0; r < rows; r++) {
            for (int bit = 2; bit >= 0; bit--) {
                contents[r] = contents[r] * 2 + (letters >> 3 * r + bit & 1);
            }
        }
        columns.add(new Column(mark, contents));
        dropGrammar();
        return true;
    }

    void clear() {
        columns.clear();
        dropGrammar();
    }

    private void dropGrammar() {
        nodes.clear();
        states.clear();
        known.clear();
        derivations.clear();
        hits.clear();
    }

    int build() {
        StringBuilder marks = new StringBuilder();
        for (Column c : columns) {
            marks.append(c.mark);
        }
        if (!isBalanced(marks.toString())) {
            return NONE;
        }
        dropGrammar();
        Node root = newNode("ROOT");
        root.children.add(treeOf(0, columns.size() - 1));
        for (Node node : nodes) {
            for (String kind : STATES_OF.get(node.kind)) {
                State state = new State(node, kind, states.size());
                node.states.add(state);
                states.add(state);
            }
        }
        for (State state : states) {
            state.targets = targetsOf(state);
        }
        return states.size();
    }

    /** Balanced marks are those of which nothing stays when (), with no open mark between, go. */
    private static boolean isBalanced(String marks) {
        String left = marks.replace(".", "");
        while (left.contains("()")) {
            left = left.replace("()", "");
        }
        return left.isEmpty();
    }

    private int partner(int column) {
        char mark = columns.get(column).mark;
        int way = mark == '(' ? 1 : mark == ')' ? -1 : 0;
        if (way == 0) {
            return -1;
        }
        int open = 0;
        for (int c = column; ; c += way) {
            char here = columns.get(c).mark;
            open += here == '(' ? way : here == ')' ? -way : 0;
            if (open == 0) {
                return c;
            }
        }
    }

    private Node newNode(String kind) {
        Node node = new Node(kind, nodes.size());
        nodes.add(node);
        return node;
    }

    private Node treeOf(int i, int j) {
        if (i > j) {
            return newNode("END");
        }
        if (partner(i) < 0) {
            Node node = newNode("LEFT");
            node.left = columns.get(i);
            node.children.add(treeOf(i + 1, j));
            return node;
        }
        if (partner(j) < 0) {
            Node node = newNode("RIGHT");
            node.right = columns.get(j);
            node.children.add(treeOf(i, j - 1));
            return node;
        }
        if (partner(i) == j) {
            Node node = newNode("BOTH");
            node.left = columns.get(i);
            node.right = columns.get(j);
            node.children.add(treeOf(i + 1, j - 1));
            return node;
        }
        Node fork = newNode("FORK");
        Node first = newNode("FIRST");
        fork.children.add(first);
        first.children.add(treeOf(i, partner(i)));
        Node second = newNode("SECOND");
        fork.children.add(second);
        second.children.add(treeOf(partner(i) + 1, j));
        return fork;
    }

    private static List<State> targetsOf(State v) {
        List<State> targets = new ArrayList<>();
        if (v.kind.equals("B")) {
            targets.add(v.node.children.get(0).states.get(0));
            targets.add(v.node.children.get(1).states.get(0));
        } else if (!v.kind.equals("E")) {
            if (v.kind.equals("IR")) {
                targets.add(v);
            } else {
                targets.addAll(v.node.inserts());
            }
            targets.addAll(v.node.children.get(0).others());
        }
        return targets;
    }

    private static boolean has(Column column, int row) {
        return column.contents[row] < 4;
    }

    private static String wayOf(int row, Node node) {
        switch (node.kind) {
            case "LEFT":
                return has(node.left, row) ? "ML" : "D";
            case "RIGHT":
                return has(node.right, row) ? "MR" : "D";
            case "BOTH":
                if (has(node.left, row) && has(node.right, row)) {
                    return "MP";
                }
                return has(node.left, row) ? "ML" : has(node.right, row) ? "MR" : "D";
            case "FORK":
                return "B";
            case "END":
                return "E";
            default:
                return "S";
        }
    }

    private boolean isIn(int row, State v) {
        return wayOf(row, v.node).equals(v.kind);
    }

    private int rowsIn(State v) {
        int count = 0;
        for (int row = 0; row < rows; row++) {
            count += isIn(row, v) ? 1 : 0;
        }
        return count;
    }

    /** LOG(a, b) by its definition, kept because it is asked for often. */
    static int log(int a, int b) {
        return LOGS.computeIfAbsent(a * 1000 + b, key -> triedLog(a, b));
    }

    private static int triedLog(int a, int b) {
        BigInteger above = BigInteger.valueOf(a).pow(8);
        BigInteger below = BigInteger.valueOf(b).pow(8);
        int k = 100;
        while (above.shiftLeft(100).compareTo(below.shiftLeft(100 + k)) < 0) {
            k--;
        }
        return k;
    }

    private State stateAt(int v) {
        return v < 0 || v >= states.size() ? null : states.get(v);
    }

    int kind(int v) {
        return stateAt(v) == null ? NONE : KINDS.indexOf(stateAt(v).kind);
    }

    int node(int v) {
        return stateAt(v) == null ? NONE : stateAt(v).node.number;
    }

    private State targetAt(int v, int k) {
        State state = stateAt(v);
        return state == null || k < 0 || k >= state.targets.size() ? null : state.targets.get(k);
    }

    int target(int v, int k) {
        return targetAt(v, k) == null ? NONE : targetAt(v, k).number;
    }

    int step(int v, int k) {
        return targetAt(v, k) == null ? NONE : stepScore(stateAt(v), targetAt(v, k));
    }

    private int stepScore(State v, State w) {
        if (v.kind.equals("B")) {
            return 0;
        }
        int going = 0;
        for (int row = 0; row < rows; row++) {
            going += !v.isInsert() && !w.isInsert() && isIn(row, v) && isIn(row, w) ? 1 : 0;
        }
        return log(going + 1, (v.isInsert() ? 0 : rowsIn(v)) + v.targets.size());
    }

    int emits(int v, int a, int b) {
        State state = stateAt(v);
        boolean emits = state != null && (state.emitsLeft() || state.emitsRight());
        if (!emits || a < 0 || a > 3 || state.kind.equals("MP") && (b < 0 || b > 3)) {
            return NONE;
        }
        return letterScore(state, a, b);
    }

    private int letterScore(State v, int a, int b) {
        if (v.isInsert()) {
            return 0;
        }
        int emitting = 0;
        for (int row = 0; row < rows; row++) {
            if (isIn(row, v)) {
                boolean same = v.kind.equals("MP")
                        ? v.node.left.contents[row] == a && v.node.right.contents[row] == b
                        : (v.kind.equals("ML") ? v.node.left : v.node.right).contents[row] == a;
                emitting += same ? 1 : 0;
            }
        }
        int choices = v.kind.equals("MP") ? 16 : 4;
        return log(choices * (emitting + 1), rowsIn(v) + choices);
    }

    int feed(int letters, int n) {
        if (n < 1 || n > 12 || text.size() + n > 24) {
            return NONE;
        }
        long left = letters & 0xFFFFFFFFL;
        for (int k = 0; k < n; k++) {
            text.add((int) (left % 4));
            left /= 4;
        }
        textChanged();
        return text.size();
    }

    void erase() {
        text.clear();
        textChanged();
    }

    private void textChanged() {
        known.clear();
        derivations.clear();
        hits.clear();
    }

    int value(int v, int i, int d) {
        State state = stateAt(v);
        boolean isPart = i >= 0 && d >= 0 && (long) i + d <= text.size() && d <= 12;
        return state == null || !isPart ? NONE : valueOf(state, i, d);
    }

    private int valueOf(State v, int i, int d) {
        List<Integer> key = List.of(v.number, i, d);
        Integer value = known.get(key);
        if (value == null) {
            value = NONE;
            for (int score : scoresOfWays(v, i, d)) {
                value = Math.max(value, score);
            }
            known.put(key, value);
        }
        return value;
    }

    /** What each step attains, or each length of the first part. */
    private List<Integer> scoresOfWays(State v, int i, int d) {
        List<Integer> scores = new ArrayList<>();
        if (v.kind.equals("E")) {
            scores.add(d == 0 ? 0 : NONE);
        } else if (v.kind.equals("B")) {
            for (int first = 0; first <= d; first++) {
                int one = valueOf(v.targets.get(0), i, first);
                int other = valueOf(v.targets.get(1), i + first, d - first);
                scores.add(one == NONE || other == NONE ? NONE : one + other);
            }
        } else {
            for (State w : v.targets) {
                scores.add(scoreThrough(v, w, i, d));
            }
        }
        return scores;
    }

    private int scoreThrough(State v, State w, int i, int d) {
        int from = i + (v.emitsLeft() ? 1 : 0);
        int to = i + d - (v.emitsRight() ? 1 : 0);
        if (to < from) {
            return NONE;
        }
        int letters = 0;
        if (v.kind.equals("MP")) {
            letters = letterScore(v, text.get(i), text.get(i + d - 1));
        } else if (v.emitsLeft()) {
            letters = letterScore(v, text.get(i), 0);
        } else if (v.emitsRight()) {
            letters = letterScore(v, text.get(i + d - 1), 0);
        }
        int rest = valueOf(w, from, to - from);
        return rest == NONE ? NONE : letters + stepScore(v, w) + rest;
    }

    int scan(int width, int threshold) {
        if (states.isEmpty() || width < 1 || width > 12) {
            return NONE;
        }
        hits.clear();
        List<Window> windows = new ArrayList<>();
        for (int i = 0; i < text.size(); i++) {
            for (int d = 1; d <= width && i + d <= text.size(); d++) {
                int score = valueOf(states.get(0), i, d);
                if (score != NONE && score >= threshold) {
                    windows.add(new Window(i, d, score));
                }
            }
        }
        windows.sort(Comparator.comparing((Window w) -> -w.score)
                .thenComparing(w -> w.begin)
                .thenComparing(w -> w.letters));
        for (Window w : windows) {
            if (hits.stream().noneMatch(h -> overlap(h, w))) {
                hits.add(w);
            }
        }
        return hits.size();
    }

    private static boolean overlap(Window a, Window b) {
        return a.begin < b.begin + b.letters && b.begin < a.begin + a.letters;
    }

    int hit(int k, int what) {
        if (k < 0 || k >= hits.size()) {
            return NONE;
        }
        Window w = hits.get(k);
        return switch (what) {
            case 0 -> w.begin;
            case 1 -> w.letters;
            case 2 -> w.score;
            case 3 -> derivationOf(w).size();
            default -> NONE;
        };
    }

    int derived(int k, int n, int what) {
        List<Derived> all = k < 0 || k >= hits.size() ? List.of() : derivationOf(hits.get(k));
        if (n < 0 || n >= all.size()) {
            return NONE;
        }
        return switch (what) {
            case 0 -> all.get(n).state.number;
            case 1 -> all.get(n).begin;
            case 2 -> all.get(n).letters;
            default -> NONE;
        };
    }

    private List<Derived> derivationOf(Window w) {
        return derivations.computeIfAbsent(w, x -> bestFrom(states.get(0), x.begin, x.letters));
    }

    private List<Derived> bestFrom(State v, int i, int d) {
        List<Derived> all = new ArrayList<>();
        all.add(new Derived(v, i, d));
        int way = scoresOfWays(v, i, d).indexOf(valueOf(v, i, d));
        if (v.kind.equals("B")) {
            all.addAll(bestFrom(v.targets.get(0), i, way));
            all.addAll(bestFrom(v.targets.get(1), i + way, d - way));
        } else if (!v.kind.equals("E")) {
            int from = i + (v.emitsLeft() ? 1 : 0);
            int to = i + d - (v.emitsRight() ? 1 : 0);
            all.addAll(bestFrom(v.targets.get(way), from, to - from));
        }
        return all;
    }
}
