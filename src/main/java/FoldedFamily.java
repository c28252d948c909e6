/**
 * From rows of letters that belong together, and from how their columns are folded, makes a grammar
 * with whole-number scores, and finds in a long text the windows that it derives best.
 */
public final class FoldedFamily {
    public static final int NONE = -1000000;

    private static final int MOST_ROWS = 4;
    private static final int MOST_COLUMNS = 8;
    private static final int MOST_TEXT = 24;
    private static final int MOST_FED = 12;
    private static final int LONGEST_PART = 12;
    private static final int LETTERS = 4;
    private static final int LETTER_PAIRS = LETTERS * LETTERS;
    private static final int BITS_OF_LONG = 64;

    // No columns make more nodes and states than the marks ()()()() do: ROOT, four BOTH with an END
    // each, and three times FORK, FIRST, SECOND.
    private static final int MOST_NODES = 18;
    private static final int MOST_STATES = 43;
    private static final int MOST_TARGETS = 6;

    // Parts of 0 .. 12 letters, of which 25, 24, .. 13 lie in the longest text.
    private static final int MOST_PARTS = 247;

    // A derivation goes once through each node, and each insert beside that emits a letter.
    private static final int LONGEST_DERIVATION = MOST_NODES + LONGEST_PART;

    private static final int S = 0;
    private static final int MP = 1;
    private static final int ML = 2;
    private static final int MR = 3;
    private static final int D = 4;
    private static final int IL = 5;
    private static final int IR = 6;
    private static final int B = 7;
    private static final int E = 8;

    private static final int ROOT = 0;
    private static final int LEFT = 1;
    private static final int RIGHT = 2;
    private static final int BOTH = 3;
    private static final int FORK = 4;
    private static final int FIRST = 5;
    private static final int SECOND = 6;
    private static final int END = 7;

    private static final int NO_COLUMN = -1;

    private static final int[] ROOT_STATES = {S, IL, IR};
    private static final int[] LEFT_STATES = {ML, D, IL};
    private static final int[] RIGHT_STATES = {MR, D, IR};
    private static final int[] BOTH_STATES = {MP, ML, MR, D, IL, IR};
    private static final int[] FORK_STATES = {B};
    private static final int[] FIRST_STATES = {S};
    private static final int[] SECOND_STATES = {S, IL};
    private static final int[] END_STATES = {E};

    private final Columns columns;
    private final Tree tree;
    private final Grammar grammar;
    private final Text text;
    private final Values values;
    private final Hits hits;
    private final Derivation derivation;

    public FoldedFamily(int rows) {
        Columns family = new Columns(Math.max(1, Math.min(MOST_ROWS, rows)));
        Tree nodes = new Tree(family);
        Grammar states = new Grammar(family, nodes);
        Text letters = new Text();
        columns = family;
        tree = nodes;
        grammar = states;
        text = letters;
        values = new Values(states, letters);
        hits = new Hits();
        derivation = new Derivation();
    }

    public boolean column(char mark, int letters) {
        if (!isMark(mark) || columns.isFull()) {
            return false;
        }
        columns.add(mark, letters);
        dropGrammar();
        return true;
    }

    public void clear() {
        columns.removeAll();
        dropGrammar();
    }

    public int build() {
        if (!columns.pairUp()) {
            return NONE;
        }
        tree.grow();
        grammar.make();
        values.forget();
        hits.forget();
        return grammar.size();
    }

    public int kind(int v) {
        return grammar.hasState(v) ? grammar.kindOf(v) : NONE;
    }

    public int node(int v) {
        return grammar.hasState(v) ? grammar.nodeOf(v) : NONE;
    }

    public int target(int v, int k) {
        return grammar.hasTarget(v, k) ? grammar.targetOf(v, k) : NONE;
    }

    public int step(int v, int k) {
        return grammar.hasTarget(v, k) ? grammar.stepScore(v, k) : NONE;
    }

    public int emits(int v, int a, int b) {
        if (!grammar.hasState(v) || !isLetter(a)) {
            return NONE;
        }
        int kind = grammar.kindOf(v);
        if (kind == MP) {
            return isLetter(b) ? grammar.letterScore(v, a, b) : NONE;
        }
        return lettersOf(kind) > 0 ? grammar.letterScore(v, a, 0) : NONE;
    }

    public int feed(int letters, int n) {
        if (n < 1 || n > MOST_FED || n > text.room()) {
            return NONE;
        }
        text.append(letters, n);
        hits.forget();
        return text.length();
    }

    public void erase() {
        text.empty();
        values.forget();
        hits.forget();
    }

    public int value(int v, int i, int d) {
        if (!grammar.hasState(v) || d > LONGEST_PART || !text.hasPart(i, d)) {
            return NONE;
        }
        values.catchUp();
        return values.of(v, i, d);
    }

    public int scan(int width, int threshold) {
        if (grammar.size() == 0 || width < 1 || width > LONGEST_PART) {
            return NONE;
        }
        values.catchUp();
        hits.find(values, text.length(), width, threshold);
        return hits.count();
    }

    public int hit(int k, int what) {
        if (!hits.has(k)) {
            return NONE;
        }
        switch (what) {
            case 0:
                return hits.begin(k);
            case 1:
                return hits.letters(k);
            case 2:
                return hits.score(k);
            case 3:
                derivation.write(values, hits.begin(k), hits.letters(k));
                return derivation.length();
            default:
                return NONE;
        }
    }

    public int derived(int k, int n, int what) {
        if (!hits.has(k)) {
            return NONE;
        }
        derivation.write(values, hits.begin(k), hits.letters(k));
        if (n < 0 || n >= derivation.length()) {
            return NONE;
        }
        switch (what) {
            case 0:
                return derivation.state(n);
            case 1:
                return derivation.begin(n);
            case 2:
                return derivation.letters(n);
            default:
                return NONE;
        }
    }

    private void dropGrammar() {
        grammar.forget();
        hits.forget();
    }

    private static boolean isMark(char mark) {
        return mark == '(' || mark == ')' || mark == '.';
    }

    private static boolean isLetter(int letter) {
        return letter >= 0 && letter < LETTERS;
    }

    private static boolean isInsert(int kind) {
        return kind == IL || kind == IR;
    }

    /** How many letters a state of this kind emits before what its target derives. */
    private static int lettersBefore(int kind) {
        return kind == MP || kind == ML || kind == IL ? 1 : 0;
    }

    /** How many letters a state of this kind emits behind what its target derives. */
    private static int lettersBehind(int kind) {
        return kind == MP || kind == MR || kind == IR ? 1 : 0;
    }

    private static int lettersOf(int kind) {
        return lettersBefore(kind) + lettersBehind(kind);
    }

    private static int[] statesOf(int nodeKind) {
        switch (nodeKind) {
            case ROOT:
                return ROOT_STATES;
            case LEFT:
                return LEFT_STATES;
            case RIGHT:
                return RIGHT_STATES;
            case BOTH:
                return BOTH_STATES;
            case FORK:
                return FORK_STATES;
            case FIRST:
                return FIRST_STATES;
            case SECOND:
                return SECOND_STATES;
            default:
                return END_STATES;
        }
    }

    /**
     * The document's LOG(a, b). Whole numbers keep it exact: a is at most 80 and b at most 20 here,
     * so neither power, doubled until it meets the other, leaves a long.
     */
    private static int log(int a, int b) {
        long above = eighthPower(a);
        long below = eighthPower(b);
        int k = 0;
        while (above < below && k > -BITS_OF_LONG) {
            above *= 2;
            k--;
        }
        while (above >= 2 * below && k < BITS_OF_LONG) {
            below *= 2;
            k++;
        }
        return k;
    }

    private static long eighthPower(int a) {
        long square = (long) a * a;
        long fourth = square * square;
        return fourth * fourth;
    }

    /**
     * The marks, which columns are paired, and which rows have which letter: a set of rows is a
     * number with bit r for row r.
     */
    private static final class Columns {
        private static final int UNPAIRED = -1;
        private static final int BITS = 3;
        private static final int MASK = 7;

        private final int rows;
        private final char[] marks = new char[MOST_COLUMNS];
        private final int[] rowSets = new int[MOST_COLUMNS * LETTERS];
        private final int[] partners = new int[MOST_COLUMNS];
        private final int[] open = new int[MOST_COLUMNS];
        private int count;

        Columns(int rows) {
            this.rows = rows;
        }

        int count() {
            return count;
        }

        boolean isFull() {
            return count >= MOST_COLUMNS;
        }

        void add(char mark, int letters) {
            marks[count] = mark;
            for (int a = 0; a < LETTERS; a++) {
                rowSets[count * LETTERS + a] = 0;
            }
            for (int row = 0; row < rows; row++) {
                int content = letters >>> (BITS * row) & MASK;
                if (isLetter(content)) {
                    rowSets[count * LETTERS + content] |= 1 << row;
                }
            }
            count++;
        }

        void removeAll() {
            count = 0;
        }

        /** Finds the partners of all columns; false when the marks are not balanced. */
        boolean pairUp() {
            int opened = 0;
            for (int c = 0; c < count; c++) {
                partners[c] = UNPAIRED;
                if (marks[c] == '(') {
                    open[opened] = c;
                    opened++;
                } else if (marks[c] == ')') {
                    if (opened == 0) {
                        return false;
                    }
                    opened--;
                    partners[c] = open[opened];
                    partners[open[opened]] = c;
                }
            }
            return opened == 0;
        }

        boolean isPaired(int c) {
            return partners[c] != UNPAIRED;
        }

        int partner(int c) {
            return partners[c];
        }

        int allRows() {
            return (1 << rows) - 1;
        }

        /** The rows with the letter a in the column; none where a node has no such column. */
        int rowsWith(int c, int a) {
            return c == NO_COLUMN ? 0 : rowSets[c * LETTERS + a];
        }

        int rowsWithAny(int c) {
            int any = 0;
            for (int a = 0; a < LETTERS; a++) {
                any |= rowsWith(c, a);
            }
            return any;
        }
    }

    /**
     * The nodes in the order of their numbers. The child of a node, FORK's FIRST too, has the next
     * number; so only FORK's SECOND has to be remembered.
     */
    private static final class Tree {
        private final Columns columns;
        private final int[] kinds = new int[MOST_NODES];
        private final int[] lefts = new int[MOST_NODES];
        private final int[] rights = new int[MOST_NODES];
        private final int[] seconds = new int[MOST_NODES];
        private int size;

        Tree(Columns columns) {
            this.columns = columns;
        }

        int size() {
            return size;
        }

        int kindOf(int node) {
            return kinds[node];
        }

        int left(int node) {
            return lefts[node];
        }

        int right(int node) {
            return rights[node];
        }

        int second(int fork) {
            return seconds[fork];
        }

        void grow() {
            size = 0;
            add(ROOT, NO_COLUMN, NO_COLUMN);
            growPart(0, columns.count() - 1, 0);
        }

        /** Each level has fewer columns than the one above it, which bounds the depth. */
        private void growPart(int i, int j, int depth) {
            if (depth > MOST_COLUMNS) {
                return;
            }
            if (i > j) {
                add(END, NO_COLUMN, NO_COLUMN);
            } else if (!columns.isPaired(i)) {
                add(LEFT, i, NO_COLUMN);
                growPart(i + 1, j, depth + 1);
            } else if (!columns.isPaired(j)) {
                add(RIGHT, NO_COLUMN, j);
                growPart(i, j - 1, depth + 1);
            } else if (columns.partner(i) == j) {
                add(BOTH, i, j);
                growPart(i + 1, j - 1, depth + 1);
            } else {
                growFork(i, j, depth);
            }
        }

        private void growFork(int i, int j, int depth) {
            int k = columns.partner(i);
            int fork = size;
            add(FORK, NO_COLUMN, NO_COLUMN);
            add(FIRST, NO_COLUMN, NO_COLUMN);
            growPart(i, k, depth + 1);
            seconds[fork] = size;
            add(SECOND, NO_COLUMN, NO_COLUMN);
            growPart(k + 1, j, depth + 1);
        }

        private void add(int kind, int left, int right) {
            kinds[size] = kind;
            lefts[size] = left;
            rights[size] = right;
            size++;
        }
    }

    /** The states in the order of their numbers, with their steps and scores; none: no grammar. */
    private static final class Grammar {
        private final Columns columns;
        private final Tree tree;
        private final int[] kinds = new int[MOST_STATES];
        private final int[] nodes = new int[MOST_STATES];
        private final int[] rowSets = new int[MOST_STATES];
        private final int[] firstStates = new int[MOST_NODES + 1];
        private final int[] targetCounts = new int[MOST_STATES];
        private final int[] targets = new int[MOST_STATES * MOST_TARGETS];
        private final int[] stepScores = new int[MOST_STATES * MOST_TARGETS];
        private final int[] letterScores = new int[MOST_STATES * LETTER_PAIRS];
        private int size;

        Grammar(Columns columns, Tree tree) {
            this.columns = columns;
            this.tree = tree;
        }

        int size() {
            return size;
        }

        void forget() {
            size = 0;
        }

        boolean hasState(int v) {
            return v >= 0 && v < size;
        }

        int kindOf(int v) {
            return kinds[v];
        }

        int nodeOf(int v) {
            return nodes[v];
        }

        boolean hasTarget(int v, int k) {
            return hasState(v) && k >= 0 && k < targetCounts[v];
        }

        int targetCount(int v) {
            return targetCounts[v];
        }

        int targetOf(int v, int k) {
            return targets[v * MOST_TARGETS + k];
        }

        int stepScore(int v, int k) {
            return stepScores[v * MOST_TARGETS + k];
        }

        /** The score of the letters a and b for MP, of a alone (b being 0) for others that emit. */
        int letterScore(int v, int a, int b) {
            return letterScores[v * LETTER_PAIRS + a * LETTERS + b];
        }

        /** Makes the states of the tree's nodes, as the tree stands. */
        void make() {
            layStates();
            for (int v = 0; v < size; v++) {
                targetCounts[v] = 0;
                addTargets(v);
                scoreSteps(v);
                scoreLetters(v);
            }
        }

        private void layStates() {
            size = 0;
            for (int node = 0; node < tree.size(); node++) {
                firstStates[node] = size;
                int[] kindsHere = statesOf(tree.kindOf(node));
                for (int s = 0; s < kindsHere.length; s++) {
                    kinds[size] = kindsHere[s];
                    nodes[size] = node;
                    rowSets[size] = rowsIn(kindsHere[s], node);
                    size++;
                }
            }
            firstStates[tree.size()] = size;
        }

        /** The rows that are in the state of this kind at the node. */
        private int rowsIn(int kind, int node) {
            int all = columns.allRows();
            int left = columns.rowsWithAny(tree.left(node));
            int right = columns.rowsWithAny(tree.right(node));
            switch (kind) {
                case MP:
                    return left & right;
                case ML:
                    return left & ~right;
                case MR:
                    return right & ~left;
                case D:
                    return all & ~left & ~right;
                case IL:
                case IR:
                    return 0;
                default:
                    return all;
            }
        }

        private void addTargets(int v) {
            int node = nodes[v];
            switch (kinds[v]) {
                case E:
                    break;
                case B:
                    addTarget(v, firstStates[node + 1]);
                    addTarget(v, firstStates[tree.second(node)]);
                    break;
                case IR:
                    addTarget(v, v);
                    addStates(v, node + 1, false);
                    break;
                default:
                    addStates(v, node, true);
                    addStates(v, node + 1, false);
                    break;
            }
        }

        /** Adds those states of the node as targets that are inserts, or those that are not. */
        private void addStates(int v, int node, boolean inserts) {
            for (int w = firstStates[node]; w < firstStates[node + 1]; w++) {
                if (isInsert(kinds[w]) == inserts) {
                    addTarget(v, w);
                }
            }
        }

        private void addTarget(int v, int w) {
            targets[v * MOST_TARGETS + targetCounts[v]] = w;
            targetCounts[v]++;
        }

        /** The set of rows of an insert is empty, so that inserts need no case of their own. */
        private void scoreSteps(int v) {
            int all = Integer.bitCount(rowSets[v]) + targetCounts[v];
            for (int k = 0; k < targetCounts[v]; k++) {
                int going = Integer.bitCount(rowSets[v] & rowSets[targetOf(v, k)]);
                stepScores[v * MOST_TARGETS + k] = kinds[v] == B ? 0 : log(going + 1, all);
            }
        }

        private void scoreLetters(int v) {
            if (lettersOf(kinds[v]) == 0) {
                return;
            }
            int lastB = kinds[v] == MP ? LETTERS - 1 : 0;
            for (int a = 0; a < LETTERS; a++) {
                for (int b = 0; b <= lastB; b++) {
                    letterScores[v * LETTER_PAIRS + a * LETTERS + b] = scoreOfLetters(v, a, b);
                }
            }
        }

        private int scoreOfLetters(int v, int a, int b) {
            if (isInsert(kinds[v])) {
                return 0;
            }
            int choices = kinds[v] == MP ? LETTER_PAIRS : LETTERS;
            int emitting = Integer.bitCount(rowSets[v] & rowsWithLetters(v, a, b));
            return log(choices * (emitting + 1), Integer.bitCount(rowSets[v]) + choices);
        }

        private int rowsWithLetters(int v, int a, int b) {
            int left = tree.left(nodes[v]);
            int right = tree.right(nodes[v]);
            switch (kinds[v]) {
                case MP:
                    return columns.rowsWith(left, a) & columns.rowsWith(right, b);
                case ML:
                    return columns.rowsWith(left, a);
                default:
                    return columns.rowsWith(right, a);
            }
        }
    }

    /** The letters in which windows are looked for. */
    private static final class Text {
        private static final int BITS = 2;

        private final int[] letters = new int[MOST_TEXT];
        private int length;

        int length() {
            return length;
        }

        int room() {
            return MOST_TEXT - length;
        }

        int letter(int i) {
            return letters[i];
        }

        boolean hasPart(int i, int d) {
            return i >= 0 && d >= 0 && d <= length && i <= length - d;
        }

        void append(int packed, int n) {
            for (int k = 0; k < n; k++) {
                letters[length] = packed >>> (BITS * k) & (LETTERS - 1);
                length++;
            }
        }

        void empty() {
            length = 0;
        }
    }

    /**
     * The values of all states and parts. A part's value rests on the text up to the part's end
     * alone, so what is known stays true while the text grows.
     */
    private static final class Values {
        private final Grammar grammar;
        private final Text text;
        private final int[] scores = new int[MOST_STATES * MOST_PARTS];
        private int knownEnds;

        Values(Grammar grammar, Text text) {
            this.grammar = grammar;
            this.text = text;
        }

        Grammar grammar() {
            return grammar;
        }

        void forget() {
            knownEnds = 0;
        }

        /**
         * Reckons the values of the parts that end where no end was reckoned yet: shorter parts
         * before longer ones, and higher states before lower ones, as no state has a lower target.
         */
        void catchUp() {
            for (int end = knownEnds; end <= text.length(); end++) {
                for (int d = 0; d <= LONGEST_PART && d <= end; d++) {
                    for (int v = grammar.size() - 1; v >= 0; v--) {
                        scores[place(v, end - d, d)] = reckon(v, end - d, d);
                    }
                }
            }
            knownEnds = text.length() + 1;
        }

        int of(int v, int i, int d) {
            return scores[place(v, i, d)];
        }

        /** Which of the targets of v, no B, is the first to attain the value; NONE if none does. */
        int bestTarget(int v, int i, int d) {
            if (of(v, i, d) == NONE) {
                return NONE;
            }
            int kind = grammar.kindOf(v);
            int wanted = of(v, i, d) - emitted(v, i, d);
            for (int k = 0; k < grammar.targetCount(v); k++) {
                if (throughTarget(v, k, i + lettersBefore(kind), d - lettersOf(kind)) == wanted) {
                    return k;
                }
            }
            return NONE;
        }

        /** The least length of the first part with which v, a B, attains its value, or NONE. */
        int bestSplit(int v, int i, int d) {
            int wanted = of(v, i, d);
            for (int first = 0; first <= d && wanted != NONE; first++) {
                if (throughSplit(v, first, i, d) == wanted) {
                    return first;
                }
            }
            return NONE;
        }

        private int reckon(int v, int i, int d) {
            switch (grammar.kindOf(v)) {
                case E:
                    return d == 0 ? 0 : NONE;
                case B:
                    return greatestOfSplits(v, i, d);
                default:
                    return greatestOfTargets(v, i, d);
            }
        }

        private int greatestOfSplits(int v, int i, int d) {
            int greatest = NONE;
            for (int first = 0; first <= d; first++) {
                greatest = Math.max(greatest, throughSplit(v, first, i, d));
            }
            return greatest;
        }

        private int greatestOfTargets(int v, int i, int d) {
            int kind = grammar.kindOf(v);
            int restBegin = i + lettersBefore(kind);
            int restLetters = d - lettersOf(kind);
            if (restLetters < 0) {
                return NONE;
            }
            int greatest = NONE;
            for (int k = 0; k < grammar.targetCount(v); k++) {
                greatest = Math.max(greatest, throughTarget(v, k, restBegin, restLetters));
            }
            return greatest == NONE ? NONE : greatest + emitted(v, i, d);
        }

        private int throughSplit(int v, int first, int i, int d) {
            int one = of(grammar.targetOf(v, 0), i, first);
            int other = of(grammar.targetOf(v, 1), i + first, d - first);
            return one == NONE || other == NONE ? NONE : one + other;
        }

        /** What the step to target k and the rest, which that derives, score together. */
        private int throughTarget(int v, int k, int restBegin, int restLetters) {
            int rest = of(grammar.targetOf(v, k), restBegin, restLetters);
            return rest == NONE ? NONE : rest + grammar.stepScore(v, k);
        }

        /** The score of the letters that v itself emits at the ends of the part. */
        private int emitted(int v, int i, int d) {
            switch (grammar.kindOf(v)) {
                case MP:
                    return grammar.letterScore(v, text.letter(i), text.letter(i + d - 1));
                case ML:
                case IL:
                    return grammar.letterScore(v, text.letter(i), 0);
                case MR:
                case IR:
                    return grammar.letterScore(v, text.letter(i + d - 1), 0);
                default:
                    return 0;
            }
        }

        /** There is one part fewer with d letters than with d - 1, hence the triangle. */
        private static int place(int v, int i, int d) {
            return v * MOST_PARTS + d * (MOST_TEXT + 1) - d * (d - 1) / 2 + i;
        }
    }

    /** The windows that the latest scan found, best first. */
    private static final class Hits {
        private final int[] begins = new int[MOST_TEXT];
        private final int[] lengths = new int[MOST_TEXT];
        private final int[] scores = new int[MOST_TEXT];
        private final boolean[] taken = new boolean[MOST_TEXT];
        private int count;

        int count() {
            return count;
        }

        void forget() {
            count = 0;
        }

        boolean has(int k) {
            return k >= 0 && k < count;
        }

        int begin(int k) {
            return begins[k];
        }

        int letters(int k) {
            return lengths[k];
        }

        int score(int k) {
            return scores[k];
        }

        void find(Values values, int textLength, int width, int threshold) {
            count = 0;
            for (int i = 0; i < MOST_TEXT; i++) {
                taken[i] = false;
            }
            boolean found = true;
            for (int n = 0; n < textLength && found; n++) {
                found = findNext(values, textLength, width, threshold);
            }
        }

        /** Only a greater score displaces an earlier window: the first and shortest one stays. */
        private boolean findNext(Values values, int textLength, int width, int threshold) {
            boolean found = false;
            for (int i = 0; i < textLength; i++) {
                int end = freeEnd(i, Math.min(textLength, i + width));
                for (int d = 1; d <= end - i; d++) {
                    int score = values.of(0, i, d);
                    if (score != NONE && score >= threshold && (!found || score > scores[count])) {
                        note(i, d, score);
                        found = true;
                    }
                }
            }
            if (found) {
                takeNoted();
            }
            return found;
        }

        /** How far the letters from i on are free of hits, up to the limit. */
        private int freeEnd(int i, int limit) {
            int end = i;
            while (end < limit && !taken[end]) {
                end++;
            }
            return end;
        }

        private void note(int begin, int length, int score) {
            begins[count] = begin;
            lengths[count] = length;
            scores[count] = score;
        }

        private void takeNoted() {
            for (int d = 0; d < lengths[count]; d++) {
                taken[begins[count] + d] = true;
            }
            count++;
        }
    }

    /** The best derivation that was written last, state by state. */
    private static final class Derivation {
        private final int[] states = new int[LONGEST_DERIVATION];
        private final int[] begins = new int[LONGEST_DERIVATION];
        private final int[] lengths = new int[LONGEST_DERIVATION];
        private int length;

        int length() {
            return length;
        }

        int state(int n) {
            return states[n];
        }

        int begin(int n) {
            return begins[n];
        }

        int letters(int n) {
            return lengths[n];
        }

        /** Writes the best derivation of the window from the S of ROOT, which is state 0. */
        void write(Values values, int i, int d) {
            length = 0;
            writeFrom(values, 0, i, d);
        }

        /** Each level writes a state, so the room for them bounds the depth. */
        private void writeFrom(Values values, int v, int i, int d) {
            if (length >= LONGEST_DERIVATION) {
                return;
            }
            note(v, i, d);
            int kind = values.grammar().kindOf(v);
            if (kind == B) {
                writeParts(values, v, i, d);
            } else if (kind != E) {
                writeRest(values, v, i, d);
            }
        }

        private void writeParts(Values values, int v, int i, int d) {
            int first = values.bestSplit(v, i, d);
            if (first != NONE) {
                writeFrom(values, values.grammar().targetOf(v, 0), i, first);
                writeFrom(values, values.grammar().targetOf(v, 1), i + first, d - first);
            }
        }

        private void writeRest(Values values, int v, int i, int d) {
            int k = values.bestTarget(v, i, d);
            if (k != NONE) {
                int kind = values.grammar().kindOf(v);
                int w = values.grammar().targetOf(v, k);
                writeFrom(values, w, i + lettersBefore(kind), d - lettersOf(kind));
            }
        }

        private void note(int v, int i, int d) {
            states[length] = v;
            begins[length] = i;
            lengths[length] = d;
            length++;
        }
    }
}
