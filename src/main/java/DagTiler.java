/**
 * A block of expressions that share parts, worked out for given inputs and a
 * small memory, with writes into the memory at the end.
 */
public final class DagTiler {
    public static final int BAD_ARG = -1;
    public static final int FULL = -2;

    private static final int MAX_NODES = 20;
    private static final int MAX_WRITES = 4;
    private static final int INPUTS = 6;
    private static final int WORDS = 16;
    private static final int ADDRESS_MASK = WORDS - 1;
    private static final int MAX_SHIFT = 31;

    private static final int NUMBER = 0;
    private static final int INPUT = 1;
    private static final int ADD = 2;
    private static final int SUB = 3;
    private static final int MUL = 4;
    private static final int NEG = 5;
    private static final int SHIFT = 6;
    private static final int FETCH = 7;
    private static final int LESS = 8;
    private static final int PICK = 9;

    private final int[] inputs = new int[INPUTS];
    private final int[] words = new int[WORDS];

    // What the three parts of a node mean hangs on its kind: they are nodes,
    // but for the number, the input's index and the shift's places.
    private final int[] kinds = new int[MAX_NODES];
    private final int[] firsts = new int[MAX_NODES];
    private final int[] seconds = new int[MAX_NODES];
    private final int[] thirds = new int[MAX_NODES];
    private int nodeCount;

    private final int[] writeAddresses = new int[MAX_WRITES];
    private final int[] writeValues = new int[MAX_WRITES];
    private int writeCount;

    // Result nodes may change after a run, and what the run told must not
    // change with them: so the marks of the last run are held apart.
    private final boolean[] isResult = new boolean[MAX_NODES];
    private final boolean[] wasResult = new boolean[MAX_NODES];
    private final int[] runValues = new int[MAX_NODES];

    public DagTiler() {
        nodeCount = 0;
        writeCount = 0;
    }

    public int number(int v) {
        return append(NUMBER, v, 0, 0);
    }

    public int input(int i) {
        if (!isInput(i)) {
            return BAD_ARG;
        }
        return append(INPUT, i, 0, 0);
    }

    public int add(int x, int y) {
        return appendOnTwo(ADD, x, y);
    }

    public int sub(int x, int y) {
        return appendOnTwo(SUB, x, y);
    }

    public int mul(int x, int y) {
        return appendOnTwo(MUL, x, y);
    }

    public int neg(int x) {
        return appendOnOne(NEG, x, 0);
    }

    public int shift(int x, int k) {
        if (k < 0 || k > MAX_SHIFT) {
            return BAD_ARG;
        }
        return appendOnOne(SHIFT, x, k);
    }

    public int fetch(int x) {
        return appendOnOne(FETCH, x, 0);
    }

    public int less(int x, int y) {
        return appendOnTwo(LESS, x, y);
    }

    public int pick(int c, int x, int y) {
        if (!isNode(c) || !isNode(x) || !isNode(y)) {
            return BAD_ARG;
        }
        return append(PICK, c, x, y);
    }

    public int write(int x, int y) {
        if (!isNode(x) || !isNode(y)) {
            return BAD_ARG;
        }
        if (writeCount >= MAX_WRITES) {
            return FULL;
        }
        int w = writeCount;
        writeAddresses[w] = x;
        writeValues[w] = y;
        writeCount = w + 1;
        return w;
    }

    public int result(int n, int on) {
        if (!isNode(n)) {
            return BAD_ARG;
        }
        int before = isResult[n] ? 1 : 0;
        isResult[n] = on != 0;
        return before;
    }

    public int nodes() {
        return nodeCount;
    }

    public void clear() {
        nodeCount = 0;
        writeCount = 0;
    }

    public int setInput(int i, int v) {
        if (!isInput(i)) {
            return BAD_ARG;
        }
        inputs[i] = v;
        return 0;
    }

    public int setWord(int a, int v) {
        if (!isAddress(a)) {
            return BAD_ARG;
        }
        words[a] = v;
        return 0;
    }

    public int word(int a) {
        return isAddress(a) ? words[a] : 0;
    }

    public int run() {
        int results = 0;
        // A node uses only earlier ones, so the order of adding is an order
        // in which every part is ready before it is used.
        for (int n = 0; n < nodeCount; n++) {
            runValues[n] = workOut(n);
            wasResult[n] = isResult[n];
            if (isResult[n]) {
                results++;
            }
        }
        // Only now, for every fetch must see the memory as it was at the begin.
        carryOutWrites();
        return results;
    }

    public boolean known(int n) {
        return isNode(n) && wasResult[n];
    }

    public int value(int n) {
        return known(n) ? runValues[n] : 0;
    }

    public int digest() {
        int sum = 0;
        for (int n = 0; n < nodeCount; n++) {
            if (wasResult[n]) {
                sum += (n + 1) * runValues[n];
            }
        }
        return sum;
    }

    private boolean isNode(int n) {
        return n >= 0 && n < nodeCount;
    }

    private boolean isInput(int i) {
        return i >= 0 && i < INPUTS;
    }

    private boolean isAddress(int a) {
        return a >= 0 && a < WORDS;
    }

    private int appendOnOne(int kind, int x, int k) {
        if (!isNode(x)) {
            return BAD_ARG;
        }
        return append(kind, x, k, 0);
    }

    private int appendOnTwo(int kind, int x, int y) {
        if (!isNode(x) || !isNode(y)) {
            return BAD_ARG;
        }
        return append(kind, x, y, 0);
    }

    private int append(int kind, int first, int second, int third) {
        if (nodeCount >= MAX_NODES) {
            return FULL;
        }
        int n = nodeCount;
        kinds[n] = kind;
        firsts[n] = first;
        seconds[n] = second;
        thirds[n] = third;
        // A node that was cleared away may have left its marks in this place.
        isResult[n] = false;
        wasResult[n] = false;
        nodeCount = n + 1;
        return n;
    }

    private int workOut(int n) {
        int first = firsts[n];
        int second = seconds[n];
        switch (kinds[n]) {
            case NUMBER:
                return first;
            case INPUT:
                return inputs[first];
            case ADD:
                return runValues[first] + runValues[second];
            case SUB:
                return runValues[first] - runValues[second];
            case MUL:
                return runValues[first] * runValues[second];
            case NEG:
                return -runValues[first];
            case SHIFT:
                return runValues[first] << second;
            case FETCH:
                return words[runValues[first] & ADDRESS_MASK];
            case LESS:
                return runValues[first] < runValues[second] ? 1 : 0;
            case PICK:
                return runValues[first] != 0 ? runValues[second] : runValues[thirds[n]];
            default:
                return 0;
        }
    }

    private void carryOutWrites() {
        for (int w = 0; w < writeCount; w++) {
            int address = runValues[writeAddresses[w]] & ADDRESS_MASK;
            words[address] = runValues[writeValues[w]];
        }
    }
}
