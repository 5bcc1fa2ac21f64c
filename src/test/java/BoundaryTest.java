import java.util.ArrayList;
import java.util.Arrays;
import java.util.List;
import java.util.function.Consumer;
import java.util.function.Supplier;
import java.util.function.ToIntFunction;

/** One test for each sentence of the document that names a boundary case, under that sentence's words. */
public final class BoundaryTest {
    private static final int MIN = Integer.MIN_VALUE;
    private static final int MAX = Integer.MAX_VALUE;
    private static final int BAD_ARG = -1;
    private static final int FULL = -2;
    private static final int NODES = 20;
    private static final int WRITES = 4;
    private static final int INPUTS = 6;
    private static final int WORDS = 16;
    private static final int CALLS = 512;

    private static int tests = 0;
    private static int failed = 0;
    private static int wrong = 0;

    // ---- how a test is run and told

    private static void test(String sentence, Runnable body) {
        int before = wrong;
        tests++;
        try {
            body.run();
        } catch (Throwable thrown) {
            wrong++;
            System.out.println("  threw " + thrown);
        }
        if (wrong != before) {
            failed++;
            System.out.println("not held: " + sentence);
        }
    }

    private static void due(String call, long got, long want) {
        if (got != want) {
            wrong++;
            System.out.println("  " + call + " answered " + got + ", due is " + want);
        }
    }

    private static void due(String call, boolean got, boolean want) {
        due(call, got ? 1 : 0, want ? 1 : 0);
    }

    public static void main(String[] args) {
        terms();
        newObject();
        addingNodes();
        valuesOfNodes();
        writes();
        results();
        countAndClear();
        inputsAndWords();
        runs();
        answersOfTheLastRun();
        refusals();
        System.out.println(tests + " boundary tests, " + failed + " failed");
        if (failed != 0) {
            System.exit(1);
        }
    }

    // ---- objects in the states that a boundary case can meet

    private static DagTiler withNumbers(int... numbers) {
        DagTiler t = new DagTiler();
        for (int v : numbers) {
            t.number(v);
        }
        return t;
    }

    /** Node n is the number 100 + n. */
    private static DagTiler withNodes(int count) {
        DagTiler t = new DagTiler();
        for (int n = 0; n < count; n++) {
            t.number(100 + n);
        }
        return t;
    }

    private static void fillCells(DagTiler t) {
        for (int i = 0; i < INPUTS; i++) {
            t.setInput(i, 1000 + i);
        }
        for (int a = 0; a < WORDS; a++) {
            t.setWord(a, 2000 + a);
        }
    }

    /** Has run, and its result nodes and cells have changed since: two answers for all that can be mixed up. */
    private static DagTiler inUse() {
        DagTiler t = new DagTiler();
        fillCells(t);
        t.input(0);
        t.number(3);
        t.fetch(1);
        t.add(0, 2);
        t.write(1, 3);
        t.result(2, 1);
        t.result(3, 1);
        t.run();
        t.result(3, 0);
        t.result(0, 1);
        t.setInput(0, -9);
        t.setWord(7, 70);
        return t;
    }

    private static DagTiler fullInUse() {
        DagTiler t = inUse();
        while (t.nodes() < NODES) {
            t.sub(t.nodes() - 1, 1);
        }
        t.result(19, 1);
        t.write(19, 18);
        t.write(0, 17);
        t.write(1, 19);
        t.run();
        t.result(18, 1);
        t.result(0, 0);
        return t;
    }

    private static DagTiler cleared() {
        DagTiler t = fullInUse();
        t.clear();
        return t;
    }

    private static List<Supplier<DagTiler>> states() {
        return Arrays.asList(DagTiler::new, () -> withNodes(1), BoundaryTest::inUse, () -> withNodes(19),
                () -> withNodes(20), BoundaryTest::fullInUse, BoundaryTest::cleared);
    }

    private static int valueAfterRun(DagTiler t, int n) {
        t.result(n, 1);
        t.run();
        return t.value(n);
    }

    // ---- the calls that add a node on nodes

    private interface Adding {
        int on(DagTiler t, int[] operands);
    }

    private static final class Kind {
        final String name;
        final int promise;
        final int operands;
        final Adding call;

        Kind(String name, int promise, int operands, Adding call) {
            this.name = name;
            this.promise = promise;
            this.operands = operands;
            this.call = call;
        }

        /** Every operand is node n. */
        int onAll(DagTiler t, int n) {
            int[] nodes = new int[operands];
            Arrays.fill(nodes, n);
            return call.on(t, nodes);
        }

        /** The operand at that place is node n, the others are node 0. */
        int onOne(DagTiler t, int place, int n) {
            int[] nodes = new int[operands];
            nodes[place] = n;
            return call.on(t, nodes);
        }

        String told(int place, int n) {
            return name + " with " + n + " at place " + place;
        }
    }

    private static final Kind[] KINDS = {
        new Kind("add", 4, 2, (t, o) -> t.add(o[0], o[1])),
        new Kind("sub", 5, 2, (t, o) -> t.sub(o[0], o[1])),
        new Kind("mul", 6, 2, (t, o) -> t.mul(o[0], o[1])),
        new Kind("neg", 7, 1, (t, o) -> t.neg(o[0])),
        new Kind("shift", 8, 1, (t, o) -> t.shift(o[0], 31)),
        new Kind("fetch", 9, 1, (t, o) -> t.fetch(o[0])),
        new Kind("less", 10, 2, (t, o) -> t.less(o[0], o[1])),
        new Kind("pick", 11, 3, (t, o) -> t.pick(o[0], o[1], o[2])),
    };

    private static final int[] FAR = {MIN, MIN + 1, -17, -2, 21, 32, 256, MAX - 1, MAX};

    // ---- Terms

    private static void terms() {
        test("BAD_ARG = -1", () -> due("BAD_ARG", DagTiler.BAD_ARG, -1));
        test("FULL = -2", () -> due("FULL", DagTiler.FULL, -2));
        test("An object is used for at most 512 calls", BoundaryTest::lastCall);
        test("Nodes are numbered 0, 1, .. in the order in which they are added, at most 20",
                BoundaryTest::twentyNodes);
        test("a node can use only nodes that are there already", BoundaryTest::onlyEarlierNodes);
        test("Writes are numbered 0, 1, .. in the order in which they are added, at most 4",
                BoundaryTest::fourWrites);
        test("No call ever throws", BoundaryTest::noCallThrows);
    }

    private static void lastCall() {
        DagTiler t = withNumbers(4, 1);
        t.fetch(0);
        t.add(2, 1);
        t.write(0, 3);
        t.result(3, 1);
        for (int call = 7; call < CALLS; call++) {
            due("run() as call " + call, t.run(), 1);
        }
        due("value(3) as call 512", t.value(3), CALLS - 7);
    }

    private static void twentyNodes() {
        DagTiler t = new DagTiler();
        for (int n = 0; n < NODES; n++) {
            due("adding node " + n, n % 2 == 0 ? t.number(n) : t.neg(n - 1), n);
        }
        due("node 20", t.neg(19), FULL);
        due("node 20, asked for again", t.number(0), FULL);
    }

    private static void onlyEarlierNodes() {
        for (Kind kind : KINDS) {
            for (int count = 0; count < NODES; count++) {
                DagTiler t = withNodes(count);
                for (int place = 0; place < kind.operands; place++) {
                    due(kind.told(place, count) + " as its own number", kind.onOne(t, place, count), BAD_ARG);
                    due(kind.told(place, count + 1), kind.onOne(t, place, count + 1), BAD_ARG);
                }
                due("nodes()", t.nodes(), count);
            }
        }
    }

    private static void fourWrites() {
        DagTiler t = withNodes(2);
        for (int w = 0; w < WRITES; w++) {
            due("write " + w, t.write(0, 1), w);
        }
        due("write 4", t.write(0, 1), FULL);
        due("write 4, asked for again", t.write(1, 0), FULL);
    }

    private static void noCallThrows() {
        int[] extremes = {MIN, -1, 0, 1, 5, 6, 15, 16, 19, 20, 31, 32, MAX};
        for (Supplier<DagTiler> state : states()) {
            for (int p : extremes) {
                for (int q : extremes) {
                    DagTiler t = state.get();
                    askAtExtremes(t, p, q);
                    t.run();
                    t.digest();
                    t.clear();
                    askAtExtremes(t, p, q);
                    t.run();
                    t.digest();
                }
            }
        }
    }

    private static void askAtExtremes(DagTiler t, int p, int q) {
        t.result(p, q);
        t.setInput(p, q);
        t.setWord(p, q);
        t.word(p);
        t.known(p);
        t.value(p);
        t.write(p, q);
        t.shift(p, q);
        t.input(p);
        t.number(p);
        for (Kind kind : KINDS) {
            for (int place = 0; place < kind.operands; place++) {
                kind.onOne(t, place, p);
            }
            kind.onAll(t, q);
        }
    }

    // ---- Promise 1

    private static void newObject() {
        test("1: No node", BoundaryTest::noNodeAtFirst);
        test("1: no write", BoundaryTest::noWriteAtFirst);
        test("1: no run yet", BoundaryTest::noRunAtFirst);
        test("1: inputs are 0", BoundaryTest::inputsAreZeroAtFirst);
        test("1: words are 0", BoundaryTest::wordsAreZeroAtFirst);
    }

    private static void noNodeAtFirst() {
        DagTiler t = new DagTiler();
        due("nodes()", t.nodes(), 0);
        for (Kind kind : KINDS) {
            due(kind.name + " on node 0", kind.onAll(t, 0), BAD_ARG);
        }
        due("write(0, 0)", t.write(0, 0), BAD_ARG);
        due("result(0, 1)", t.result(0, 1), BAD_ARG);
        due("run()", t.run(), 0);
        due("number(5)", t.number(5), 0);
    }

    private static void noWriteAtFirst() {
        DagTiler t = withNumbers(0, 9);
        t.run();
        for (int a = 0; a < WORDS; a++) {
            due("word(" + a + ") after a run without writes", t.word(a), 0);
        }
        due("write(0, 1)", t.write(0, 1), 0);
    }

    private static void noRunAtFirst() {
        DagTiler t = new DagTiler();
        due("digest() of no node", t.digest(), 0);
        due("known(0) of no node", t.known(0), false);
        due("value(0) of no node", t.value(0), 0);
        t.number(8);
        t.result(0, 1);
        due("known(0)", t.known(0), false);
        due("value(0)", t.value(0), 0);
        due("digest()", t.digest(), 0);
    }

    private static void inputsAreZeroAtFirst() {
        for (int i = 0; i < INPUTS; i++) {
            DagTiler t = new DagTiler();
            t.input(i);
            due("input " + i, valueAfterRun(t, 0), 0);
            due("known(0)", t.known(0), true);
        }
    }

    private static void wordsAreZeroAtFirst() {
        for (int a = 0; a < WORDS; a++) {
            DagTiler t = withNumbers(a);
            due("word(" + a + ")", t.word(a), 0);
            t.fetch(0);
            due("a fetch of word " + a, valueAfterRun(t, 1), 0);
        }
    }

    // ---- Promises 2 to 11, as calls

    private static void addingNodes() {
        test("2: FULL, else the number of the new node", () -> dueFullAtTwenty("number", t -> t.number(5)));
        test("2: any v is taken, also when it looks like a refusal", BoundaryTest::anyNumberIsTaken);
        test("3: i not 0 to 5 answers BAD_ARG", BoundaryTest::inputRange);
        test("3: tested in this order: BAD_ARG; FULL", BoundaryTest::inputOrder);
        test("3: FULL, otherwise the number of the new node", () -> dueFullAtTwenty("input", t -> t.input(5)));
        for (Kind kind : KINDS) {
            String head = kind.promise + ": " + kind.name + ": ";
            test(head + "no such node answers BAD_ARG", () -> dueNodeRange(kind));
            test(head + "tested in this order: BAD_ARG; FULL", () -> dueBadArgBeforeFull(kind));
            test(head + "FULL, otherwise the number of the new node",
                    () -> dueFullAtTwenty(kind.name, t -> kind.onAll(t, 0)));
            test(head + "a cleared node is no node", () -> dueClearedIsNoNode(kind));
        }
        test("8: k not 0 to 31 answers BAD_ARG", BoundaryTest::shiftRange);
        test("8: no node x, or k not 0 to 31, before FULL", BoundaryTest::shiftOrder);
        test("8: k is no node's number", BoundaryTest::placesAreNoNode);
    }

    private static void dueFullAtTwenty(String name, ToIntFunction<DagTiler> adding) {
        DagTiler t = withNodes(18);
        due(name + " beside 18 nodes", adding.applyAsInt(t), 18);
        due(name + " beside 19 nodes", adding.applyAsInt(t), 19);
        due(name + " beside 20 nodes", adding.applyAsInt(t), FULL);
        due("nodes()", t.nodes(), NODES);
        DagTiler writing = withNodes(1);
        for (int w = 0; w < WRITES; w++) {
            writing.write(0, 0);
        }
        due(name + " beside 4 writes", adding.applyAsInt(writing), 1);
    }

    private static void anyNumberIsTaken() {
        int[] numbers = {MIN, BAD_ARG, FULL, 0, NODES, MAX};
        DagTiler t = new DagTiler();
        for (int n = 0; n < numbers.length; n++) {
            due("number(" + numbers[n] + ")", t.number(numbers[n]), n);
            due("its value", valueAfterRun(t, n), numbers[n]);
        }
    }

    private static void inputRange() {
        DagTiler t = new DagTiler();
        due("input(-1)", t.input(-1), BAD_ARG);
        due("input(6)", t.input(6), BAD_ARG);
        for (int far : FAR) {
            due("input(" + far + ")", t.input(far), BAD_ARG);
        }
        due("nodes()", t.nodes(), 0);
        due("input(0)", t.input(0), 0);
        due("input(5)", t.input(5), 1);
    }

    private static void inputOrder() {
        DagTiler t = withNodes(NODES);
        due("input(-1)", t.input(-1), BAD_ARG);
        due("input(6)", t.input(6), BAD_ARG);
        due("input(0)", t.input(0), FULL);
        due("input(5)", t.input(5), FULL);
    }

    private static void dueNodeRange(Kind kind) {
        for (int place = 0; place < kind.operands; place++) {
            DagTiler t = withNodes(3);
            due(kind.told(place, -1), kind.onOne(t, place, -1), BAD_ARG);
            due(kind.told(place, 3), kind.onOne(t, place, 3), BAD_ARG);
            for (int far : FAR) {
                due(kind.told(place, far), kind.onOne(t, place, far), BAD_ARG);
            }
            due(kind.told(place, 2), kind.onOne(t, place, 2), 3);
            due(kind.told(place, 3) + ", now there", kind.onOne(t, place, 3), 4);
            due(kind.told(place, 0), kind.onOne(t, place, 0), 5);
        }
    }

    private static void dueBadArgBeforeFull(Kind kind) {
        DagTiler t = withNodes(NODES);
        for (int place = 0; place < kind.operands; place++) {
            due(kind.told(place, -1), kind.onOne(t, place, -1), BAD_ARG);
            due(kind.told(place, 20), kind.onOne(t, place, 20), BAD_ARG);
            due(kind.told(place, 19), kind.onOne(t, place, 19), FULL);
            due(kind.told(place, 0), kind.onOne(t, place, 0), FULL);
        }
    }

    private static void dueClearedIsNoNode(Kind kind) {
        DagTiler t = withNodes(NODES);
        t.clear();
        due(kind.name + " on a cleared node 0", kind.onAll(t, 0), BAD_ARG);
        due("number(1)", t.number(1), 0);
        due(kind.name + " on a cleared node 1", kind.onAll(t, 1), BAD_ARG);
        due(kind.name + " on the new node 0", kind.onAll(t, 0), 1);
    }

    private static void shiftRange() {
        DagTiler t = withNodes(1);
        due("shift(0, -1)", t.shift(0, -1), BAD_ARG);
        due("shift(0, 32)", t.shift(0, 32), BAD_ARG);
        int[] far = {MIN, -32, 33, 63, 64, MAX};
        for (int k : far) {
            due("shift(0, " + k + ")", t.shift(0, k), BAD_ARG);
        }
        due("nodes()", t.nodes(), 1);
        due("shift(0, 0)", t.shift(0, 0), 1);
        due("shift(0, 31)", t.shift(0, 31), 2);
    }

    private static void shiftOrder() {
        DagTiler t = withNodes(NODES);
        due("shift(0, -1)", t.shift(0, -1), BAD_ARG);
        due("shift(0, 32)", t.shift(0, 32), BAD_ARG);
        due("shift(20, 0)", t.shift(20, 0), BAD_ARG);
        due("shift(-1, 31)", t.shift(-1, 31), BAD_ARG);
        due("shift(20, 32)", t.shift(20, 32), BAD_ARG);
        due("shift(19, 0)", t.shift(19, 0), FULL);
        due("shift(0, 31)", t.shift(0, 31), FULL);
    }

    private static void placesAreNoNode() {
        DagTiler t = withNumbers(5, 9);
        due("shift(0, 7) beside 2 nodes", t.shift(0, 7), 2);
        due("5 shifted by 7", valueAfterRun(t, 2), 640);
        due("shift(0, 1)", t.shift(0, 1), 3);
        due("5 shifted by 1, not by the value of node 1", valueAfterRun(t, 3), 10);
    }

    // ---- The values of nodes

    private static void valuesOfNodes() {
        test("sums wrap", BoundaryTest::sumsWrap);
        test("differences wrap", BoundaryTest::differencesWrap);
        test("products wrap", BoundaryTest::productsWrap);
        test("neg x: 0 minus the value of x, wrapping", BoundaryTest::negWraps);
        test("shifts wrap: digits beyond the highest are lost", BoundaryTest::shiftsWrap);
        test("shift x k: 0 places and 31 places", BoundaryTest::shiftEnds);
        test("fetch x: all binary digits but the lowest four taken away", BoundaryTest::fetchMasks);
        test("less x y: 1 if less, else 0", BoundaryTest::lessAtEquals);
        test("less x y: at the ends of the ints, where a difference would wrap", BoundaryTest::lessAtEnds);
        test("pick c x y: x if that of c is not 0, else y", BoundaryTest::pickAtZero);
        test("a node may use one node at each place", BoundaryTest::oneNodeAtEachPlace);
        test("a node may use the newest node, the 19th", BoundaryTest::newestNodeAtEachPlace);
        test("a chain of 20 nodes", BoundaryTest::longestChain);
    }

    private static void dueOfTwo(int promise, int left, int right, int want) {
        DagTiler t = withNumbers(left, right);
        for (Kind kind : KINDS) {
            if (kind.promise == promise) {
                kind.call.on(t, new int[] {0, 1});
                due(kind.name + " of " + left + " and " + right, valueAfterRun(t, 2), want);
            }
        }
    }

    private static void sumsWrap() {
        dueOfTwo(4, MAX, 0, MAX);
        dueOfTwo(4, MAX, 1, MIN);
        dueOfTwo(4, MAX, MAX, -2);
        dueOfTwo(4, MIN, 0, MIN);
        dueOfTwo(4, MIN, -1, MAX);
        dueOfTwo(4, MIN, MIN, 0);
        dueOfTwo(4, MIN, MAX, -1);
    }

    private static void differencesWrap() {
        dueOfTwo(5, MIN, 0, MIN);
        dueOfTwo(5, MIN, 1, MAX);
        dueOfTwo(5, MAX, -1, MIN);
        dueOfTwo(5, 0, MIN, MIN);
        dueOfTwo(5, -1, MIN, MAX);
        dueOfTwo(5, MIN, MAX, 1);
        dueOfTwo(5, MAX, MIN, -1);
        dueOfTwo(5, MIN, MIN, 0);
    }

    private static void productsWrap() {
        dueOfTwo(6, 46340, 46340, 2147395600);
        dueOfTwo(6, 46341, 46341, -2147479015);
        dueOfTwo(6, 65536, 32768, MIN);
        dueOfTwo(6, 65536, 65536, 0);
        dueOfTwo(6, MAX, 2, -2);
        dueOfTwo(6, MAX, MAX, 1);
        dueOfTwo(6, MIN, -1, MIN);
        dueOfTwo(6, MIN, MIN, 0);
        dueOfTwo(6, MIN, MAX, MIN);
        dueOfTwo(6, MIN, 0, 0);
    }

    private static void negWraps() {
        int[][] cases = {{MIN, MIN}, {MIN + 1, MAX}, {MAX, MIN + 1}, {0, 0}, {1, -1}, {-1, 1}};
        for (int[] c : cases) {
            DagTiler t = withNumbers(c[0]);
            t.neg(0);
            due("neg of " + c[0], valueAfterRun(t, 1), c[1]);
        }
    }

    private static void dueShift(int v, int k, int want) {
        DagTiler t = withNumbers(v);
        t.shift(0, k);
        due(v + " shifted by " + k, valueAfterRun(t, 1), want);
    }

    private static void shiftsWrap() {
        dueShift(MAX, 1, -2);
        dueShift(MIN, 1, 0);
        dueShift(0x40000000, 1, MIN);
        dueShift(0x40000000, 2, 0);
        dueShift(0x12345678, 8, 0x34567800);
        dueShift(-1, 4, -16);
    }

    private static void shiftEnds() {
        int[] numbers = {0, 1, -1, 2, 3, MIN, MAX};
        for (int v : numbers) {
            dueShift(v, 0, v);
            dueShift(v, 31, v % 2 == 0 ? 0 : MIN);
            dueShift(v, 30, v % 2 == 0 ? (v == 2 ? MIN : 0) : (v == 1 ? 0x40000000 : 0xC0000000));
        }
    }

    /** Values that are an address only when taken to their lowest four digits, each with that address. */
    private static final int[][] ADDRESSES = {
        {0, 0}, {15, 15}, {16, 0}, {17, 1}, {31, 15}, {32, 0}, {255, 15}, {0x7ffffff8, 8},
        {-1, 15}, {-15, 1}, {-16, 0}, {-17, 15}, {MIN, 0}, {MIN + 9, 9}, {MAX, 15},
    };

    private static void fetchMasks() {
        for (int[] c : ADDRESSES) {
            DagTiler t = withNumbers(c[0]);
            fillCells(t);
            t.fetch(0);
            due("fetch at " + c[0], valueAfterRun(t, 1), 2000 + c[1]);
        }
    }

    private static void lessAtEquals() {
        int[] numbers = {MIN, -1, 0, 1, MAX};
        for (int v : numbers) {
            dueOfTwo(10, v, v, 0);
        }
        dueOfTwo(10, 4, 5, 1);
        dueOfTwo(10, 5, 4, 0);
        dueOfTwo(10, -1, 0, 1);
        dueOfTwo(10, 0, -1, 0);
    }

    private static void lessAtEnds() {
        dueOfTwo(10, MIN, MAX, 1);
        dueOfTwo(10, MAX, MIN, 0);
        dueOfTwo(10, MIN, 1, 1);
        dueOfTwo(10, 1, MIN, 0);
        dueOfTwo(10, MIN, MIN + 1, 1);
        dueOfTwo(10, MAX - 1, MAX, 1);
        dueOfTwo(10, MAX, -1, 0);
        dueOfTwo(10, -1, MAX, 1);
    }

    private static void pickAtZero() {
        int[] conditions = {0, 1, -1, 2, 16, 65536, MIN, MAX};
        for (int c : conditions) {
            DagTiler t = withNumbers(c, 70, 80);
            t.pick(0, 1, 2);
            due("pick on " + c, valueAfterRun(t, 3), c == 0 ? 80 : 70);
        }
    }

    private static void oneNodeAtEachPlace() {
        int[] wants = {14, 0, 49, -7, MIN, 2007, 0, 7};
        for (int k = 0; k < KINDS.length; k++) {
            DagTiler t = withNumbers(7);
            fillCells(t);
            due(KINDS[k].name + " of node 0 alone", KINDS[k].onAll(t, 0), 1);
            due("its value", valueAfterRun(t, 1), wants[k]);
        }
    }

    private static void newestNodeAtEachPlace() {
        int[] wants = {238, 0, 14161, -119, MIN, 2007, 0, 119};
        for (int k = 0; k < KINDS.length; k++) {
            // Node 18 is 119, and no other node has that value.
            DagTiler t = withNodes(18);
            t.number(119);
            fillCells(t);
            due(KINDS[k].name + " of node 18 alone", KINDS[k].onAll(t, 18), 19);
            due("its value", valueAfterRun(t, 19), wants[k]);
        }
    }

    private static void longestChain() {
        DagTiler t = withNumbers(3);
        for (int n = 1; n < NODES; n++) {
            due("add", t.add(n - 1, n - 1), n);
        }
        due("value(19)", valueAfterRun(t, 19), 3 * 524288);
    }

    // ---- Promise 12

    private static void writes() {
        test("12: no node x or no node y answers BAD_ARG", BoundaryTest::writeRange);
        test("12: tested in this order: BAD_ARG; FULL", BoundaryTest::writeOrder);
        test("12: 4 writes answers FULL, 20 nodes do not", BoundaryTest::nodesDoNotFillWrites);
        test("12: the number of the new write begins at 0 again after clear", BoundaryTest::writesAfterClear);
        test("write: all binary digits but the lowest four of the address taken away", BoundaryTest::writeMasks);
        test("write: for the writes in order, the last into a word stays", BoundaryTest::writesInOrder);
        test("write: x and y may be one node", BoundaryTest::writeOfOneNode);
        test("write: the value is put whole, to the ends of the ints", BoundaryTest::writeOfEnds);
    }

    private static void writeRange() {
        DagTiler t = withNodes(3);
        int[] missing = {-1, 3, MIN, -2, 4, 19, 20, MAX};
        for (int n : missing) {
            due("write(" + n + ", 0)", t.write(n, 0), BAD_ARG);
            due("write(0, " + n + ")", t.write(0, n), BAD_ARG);
            due("write(" + n + ", " + n + ")", t.write(n, n), BAD_ARG);
        }
        due("write(2, 0)", t.write(2, 0), 0);
        due("write(0, 2)", t.write(0, 2), 1);
    }

    private static void writeOrder() {
        DagTiler t = withNodes(3);
        for (int w = 0; w < WRITES; w++) {
            t.write(0, 1);
        }
        due("write(-1, 0)", t.write(-1, 0), BAD_ARG);
        due("write(3, 0)", t.write(3, 0), BAD_ARG);
        due("write(0, -1)", t.write(0, -1), BAD_ARG);
        due("write(0, 3)", t.write(0, 3), BAD_ARG);
        due("write(2, 2)", t.write(2, 2), FULL);
        due("write(0, 0)", t.write(0, 0), FULL);
    }

    private static void nodesDoNotFillWrites() {
        DagTiler t = withNodes(NODES);
        for (int w = 0; w < WRITES; w++) {
            due("write(19, 0)", t.write(19, 0), w);
        }
        due("write(19, 0)", t.write(19, 0), FULL);
    }

    private static void writesAfterClear() {
        DagTiler t = fullInUse();
        due("a fifth write", t.write(0, 0), FULL);
        t.clear();
        due("write(0, 0) without a node", t.write(0, 0), BAD_ARG);
        t.number(1);
        for (int w = 0; w < WRITES; w++) {
            due("write(0, 0)", t.write(0, 0), w);
        }
        due("write(0, 0)", t.write(0, 0), FULL);
    }

    private static void writeMasks() {
        for (int[] c : ADDRESSES) {
            DagTiler t = withNumbers(c[0], 9);
            fillCells(t);
            t.write(0, 1);
            t.run();
            for (int a = 0; a < WORDS; a++) {
                due("word(" + a + ") after a write at " + c[0], t.word(a), a == c[1] ? 9 : 2000 + a);
            }
        }
    }

    private static void writesInOrder() {
        // All four addresses are word 5.
        DagTiler t = withNumbers(5, 21, -11, 5 + MIN);
        for (int w = 0; w < WRITES; w++) {
            t.write(w, WRITES - 1 - w);
            t.run();
            int[] last = {5 + MIN, -11, 21, 5};
            due("word(5) after " + (w + 1) + " writes", t.word(5), last[w]);
        }
    }

    private static void writeOfOneNode() {
        DagTiler t = withNumbers(-3);
        t.write(0, 0);
        t.run();
        due("word(13)", t.word(13), -3);
    }

    private static void writeOfEnds() {
        DagTiler t = withNumbers(0, 15, MIN, MAX);
        t.write(0, 2);
        t.write(1, 3);
        t.run();
        due("word(0)", t.word(0), MIN);
        due("word(15)", t.word(15), MAX);
    }

    // ---- Promise 13

    private static void results() {
        test("13: on not 0", BoundaryTest::onNotZero);
        test("13: on 0", BoundaryTest::onZero);
        test("13: BAD_ARG if there is no node n", BoundaryTest::resultRange);
        test("13: 1 if it was one before, else 0", BoundaryTest::resultBefore);
        test("13: a new node is no result node", BoundaryTest::newNodeIsNoResult);
    }

    private static void onNotZero() {
        int[] ons = {1, -1, 2, 256, 65536, MIN, MAX};
        for (int on : ons) {
            DagTiler t = withNodes(1);
            due("result(0, " + on + ")", t.result(0, on), 0);
            due("run()", t.run(), 1);
            due("known(0)", t.known(0), true);
            due("result(0, " + on + ") again", t.result(0, on), 1);
            due("run()", t.run(), 1);
        }
    }

    private static void onZero() {
        DagTiler t = withNodes(1);
        due("result(0, 0)", t.result(0, 0), 0);
        due("run()", t.run(), 0);
        t.result(0, 1);
        due("result(0, 0)", t.result(0, 0), 1);
        due("run()", t.run(), 0);
        due("known(0)", t.known(0), false);
    }

    private static void resultRange() {
        int[] missing = {-1, 2, MIN, -2, 3, 19, 20, MAX};
        DagTiler t = withNodes(2);
        for (int n : missing) {
            due("result(" + n + ", 1)", t.result(n, 1), BAD_ARG);
            due("result(" + n + ", 0)", t.result(n, 0), BAD_ARG);
        }
        due("result(1, 1)", t.result(1, 1), 0);
        due("result(0, 1)", t.result(0, 1), 0);
        DagTiler full = withNodes(NODES);
        due("result(20, 1)", full.result(20, 1), BAD_ARG);
        due("result(19, 1)", full.result(19, 1), 0);
        due("result(0, 1) without a node", new DagTiler().result(0, 1), BAD_ARG);
    }

    private static void resultBefore() {
        DagTiler t = withNodes(2);
        due("result(1, 1)", t.result(1, 1), 0);
        due("result(0, 0) beside it", t.result(0, 0), 0);
        due("result(1, 1)", t.result(1, 1), 1);
        t.run();
        due("result(1, 0) after a run", t.result(1, 0), 1);
        due("result(1, 0)", t.result(1, 0), 0);
        due("result(1, 1)", t.result(1, 1), 0);
        due("result(1, 0)", t.result(1, 0), 1);
    }

    private static void newNodeIsNoResult() {
        DagTiler t = withNodes(NODES);
        for (int n = 0; n < NODES; n++) {
            due("result(" + n + ", 1)", t.result(n, 1), 0);
        }
        t.clear();
        for (int n = 0; n < NODES; n++) {
            t.number(n);
            due("result(" + n + ", 0) after clear", t.result(n, 0), 0);
        }
    }

    // ---- Promises 14 and 15

    private static void countAndClear() {
        test("14: the number of nodes, 0 to 20", BoundaryTest::countOfNodes);
        test("14: writes, results, runs and refused calls are no nodes", BoundaryTest::onlyNodesCount);
        test("15: clear of an empty block", BoundaryTest::clearOfNothing);
        test("15: Removes all nodes", BoundaryTest::clearRemovesNodes);
        test("15: Removes all writes", BoundaryTest::clearRemovesWrites);
        test("15: nothing counts as worked out", BoundaryTest::clearForgetsTheRun);
        test("15: Inputs and words stay", BoundaryTest::clearLeavesCells);
    }

    private static void countOfNodes() {
        DagTiler t = new DagTiler();
        for (int n = 0; n < NODES; n++) {
            due("nodes()", t.nodes(), n);
            t.number(n);
        }
        due("nodes()", t.nodes(), NODES);
        t.number(0);
        due("nodes() after a refused one", t.nodes(), NODES);
    }

    private static void onlyNodesCount() {
        DagTiler t = withNodes(2);
        t.write(0, 1);
        t.result(0, 1);
        t.run();
        t.setInput(0, 1);
        t.setWord(0, 1);
        t.add(0, 2);
        t.input(6);
        t.shift(0, 32);
        due("nodes()", t.nodes(), 2);
    }

    private static void clearOfNothing() {
        DagTiler t = new DagTiler();
        t.clear();
        t.clear();
        due("nodes()", t.nodes(), 0);
        due("run()", t.run(), 0);
        due("digest()", t.digest(), 0);
        due("number(4)", t.number(4), 0);
    }

    private static void clearRemovesNodes() {
        DagTiler t = fullInUse();
        t.clear();
        due("nodes()", t.nodes(), 0);
        due("result(0, 1)", t.result(0, 1), BAD_ARG);
        due("run()", t.run(), 0);
        for (int n = 0; n < NODES; n++) {
            due("number(" + n + ")", t.number(n), n);
        }
        due("number(20)", t.number(20), FULL);
        due("run() of 20 nodes and no result", t.run(), 0);
    }

    private static void clearRemovesWrites() {
        DagTiler t = fullInUse();
        t.clear();
        for (int n = 0; n < NODES; n++) {
            t.number(n);
        }
        fillCells(t);
        t.run();
        for (int a = 0; a < WORDS; a++) {
            due("word(" + a + ")", t.word(a), 2000 + a);
        }
    }

    private static void clearForgetsTheRun() {
        DagTiler t = withNodes(NODES);
        for (int n = 0; n < NODES; n++) {
            t.result(n, 1);
        }
        t.run();
        t.clear();
        dueNothingKnown(t);
        for (int n = 0; n < NODES; n++) {
            t.number(n);
            t.result(n, 1);
        }
        dueNothingKnown(t);
        due("run()", t.run(), NODES);
    }

    private static void dueNothingKnown(DagTiler t) {
        due("digest()", t.digest(), 0);
        for (int n = 0; n < NODES; n++) {
            due("known(" + n + ")", t.known(n), false);
            due("value(" + n + ")", t.value(n), 0);
        }
    }

    private static void clearLeavesCells() {
        DagTiler t = withNodes(1);
        fillCells(t);
        t.clear();
        for (int a = 0; a < WORDS; a++) {
            due("word(" + a + ")", t.word(a), 2000 + a);
        }
        for (int i = 0; i < INPUTS; i++) {
            t.input(i);
            due("input " + i, valueAfterRun(t, i), 1000 + i);
        }
    }

    // ---- Promises 16 to 18

    private static void inputsAndWords() {
        test("16: BAD_ARG if i is not 0 to 5, else 0", BoundaryTest::setInputRange);
        test("16: Input i becomes v, any int", BoundaryTest::inputsHoldInts);
        test("16: Input i alone becomes v", BoundaryTest::inputsAreApart);
        test("17: BAD_ARG if a is not 0 to 15, else 0", BoundaryTest::setWordRange);
        test("17: The word becomes v, any int", BoundaryTest::wordsHoldInts);
        test("17: The word at address a alone becomes v", BoundaryTest::wordsAreApart);
        test("18: 0 if a is not 0 to 15", BoundaryTest::wordRange);
    }

    private static void setInputRange() {
        DagTiler t = new DagTiler();
        due("setInput(-1, 3)", t.setInput(-1, 3), BAD_ARG);
        due("setInput(6, 3)", t.setInput(6, 3), BAD_ARG);
        for (int far : FAR) {
            due("setInput(" + far + ", 3)", t.setInput(far, 3), BAD_ARG);
        }
        due("setInput(0, 3)", t.setInput(0, 3), 0);
        due("setInput(5, 3)", t.setInput(5, 3), 0);
    }

    private static void inputsHoldInts() {
        int[] values = {MIN, BAD_ARG, FULL, 0, MAX};
        for (int i = 0; i < INPUTS; i++) {
            DagTiler t = new DagTiler();
            t.input(i);
            for (int v : values) {
                due("setInput(" + i + ", " + v + ")", t.setInput(i, v), 0);
                due("input " + i, valueAfterRun(t, 0), v);
            }
        }
    }

    private static void inputsAreApart() {
        for (int set = 0; set < INPUTS; set++) {
            DagTiler t = new DagTiler();
            t.setInput(set, 8);
            for (int i = 0; i < INPUTS; i++) {
                t.input(i);
                due("input " + i + " after setInput(" + set + ", 8)", valueAfterRun(t, i), i == set ? 8 : 0);
            }
            due("word(" + set + ")", t.word(set), 0);
        }
    }

    private static void setWordRange() {
        DagTiler t = new DagTiler();
        due("setWord(-1, 3)", t.setWord(-1, 3), BAD_ARG);
        due("setWord(16, 3)", t.setWord(16, 3), BAD_ARG);
        for (int far : FAR) {
            due("setWord(" + far + ", 3)", t.setWord(far, 3), BAD_ARG);
        }
        // An address is not taken to its lowest four digits here, other than in a run.
        for (int a = 0; a < WORDS; a++) {
            due("word(" + a + ")", t.word(a), 0);
        }
        due("setWord(0, 3)", t.setWord(0, 3), 0);
        due("setWord(15, 3)", t.setWord(15, 3), 0);
    }

    private static void wordsHoldInts() {
        int[] values = {MIN, BAD_ARG, FULL, 0, MAX};
        for (int a = 0; a < WORDS; a++) {
            DagTiler t = new DagTiler();
            for (int v : values) {
                due("setWord(" + a + ", " + v + ")", t.setWord(a, v), 0);
                due("word(" + a + ")", t.word(a), v);
            }
        }
    }

    private static void wordsAreApart() {
        for (int set = 0; set < WORDS; set++) {
            DagTiler t = new DagTiler();
            t.setWord(set, 8);
            for (int a = 0; a < WORDS; a++) {
                due("word(" + a + ") after setWord(" + set + ", 8)", t.word(a), a == set ? 8 : 0);
            }
        }
    }

    private static void wordRange() {
        DagTiler t = new DagTiler();
        fillCells(t);
        due("word(-1)", t.word(-1), 0);
        due("word(16)", t.word(16), 0);
        for (int far : FAR) {
            due("word(" + far + ")", t.word(far), 0);
        }
        due("word(0)", t.word(0), 2000);
        due("word(15)", t.word(15), 2015);
    }

    // ---- Promise 19

    private static void runs() {
        test("19: a run of no node and no write answers 0", BoundaryTest::runOfNothing);
        test("19: a run of nodes without a result node answers 0", BoundaryTest::runWithoutResults);
        test("19: a run of 20 result nodes and 4 writes answers 20", BoundaryTest::runOfAll);
        test("19: a run of results without writes leaves the words", BoundaryTest::runWithoutWrites);
        test("19: nodes that writes use are worked out, and are no results", BoundaryTest::runOfWritesAlone);
        test("values are those for the inputs at the begin of the run", BoundaryTest::runTakesTheInputsOfItsBegin);
        test("values are those for the memory at the begin of the run", BoundaryTest::runTakesTheWordsOfItsBegin);
        test("a write's address and value too are those of the begin", BoundaryTest::writesTakeTheWordsOfTheBegin);
        test("the next run begins with what the writes left", BoundaryTest::nextRunSeesTheWrites);
    }

    private static void runOfNothing() {
        DagTiler t = new DagTiler();
        fillCells(t);
        due("run()", t.run(), 0);
        due("run()", t.run(), 0);
        for (int a = 0; a < WORDS; a++) {
            due("word(" + a + ")", t.word(a), 2000 + a);
        }
        due("digest()", t.digest(), 0);
        due("nodes()", t.nodes(), 0);
    }

    private static void runWithoutResults() {
        DagTiler t = withNodes(NODES);
        due("run()", t.run(), 0);
        dueNothingKnown(t);
    }

    private static void runOfAll() {
        DagTiler t = withNodes(NODES);
        for (int n = 0; n < NODES; n++) {
            t.result(n, 1);
        }
        for (int w = 0; w < WRITES; w++) {
            t.write(w, NODES - 1 - w);
        }
        due("run()", t.run(), NODES);
        for (int n = 0; n < NODES; n++) {
            due("value(" + n + ")", t.value(n), 100 + n);
        }
        for (int w = 0; w < WRITES; w++) {
            due("word(" + (4 + w) + ")", t.word(4 + w), 119 - w);
        }
    }

    private static void runWithoutWrites() {
        DagTiler t = withNodes(NODES);
        fillCells(t);
        t.result(0, 1);
        t.result(19, 1);
        due("run()", t.run(), 2);
        for (int a = 0; a < WORDS; a++) {
            due("word(" + a + ")", t.word(a), 2000 + a);
        }
    }

    private static void runOfWritesAlone() {
        DagTiler t = withNumbers(6, 7);
        t.mul(0, 1);
        t.write(0, 2);
        due("run()", t.run(), 0);
        due("word(6)", t.word(6), 42);
        due("known(0)", t.known(0), false);
        due("known(2)", t.known(2), false);
        due("value(2)", t.value(2), 0);
        due("digest()", t.digest(), 0);
    }

    private static void runTakesTheInputsOfItsBegin() {
        DagTiler t = new DagTiler();
        t.setInput(3, 1);
        t.input(3);
        t.setInput(3, 2);
        t.result(0, 1);
        t.run();
        t.setInput(3, 4);
        due("value(0)", t.value(0), 2);
        due("digest()", t.digest(), 2);
        t.run();
        due("value(0) in the next run", t.value(0), 4);
    }

    private static void runTakesTheWordsOfItsBegin() {
        DagTiler t = withNumbers(3);
        t.setWord(3, 1);
        t.write(0, 0);
        t.fetch(0);
        t.setWord(3, 2);
        t.result(1, 1);
        t.run();
        due("value(1), of a word that a write changed", t.value(1), 2);
        due("word(3)", t.word(3), 3);
        t.setWord(3, 4);
        due("value(1), of a word that was set since", t.value(1), 2);
    }

    private static void writesTakeTheWordsOfTheBegin() {
        // Write 0 changes word 1; writes 1 to 3 lean on a fetch of word 1.
        DagTiler t = withNumbers(1, 9, 12);
        t.fetch(0);
        t.setWord(1, 5);
        t.write(0, 1);
        t.write(3, 2);
        t.write(2, 3);
        t.run();
        due("word(1)", t.word(1), 9);
        due("word(5), at the address fetched at the begin", t.word(5), 12);
        due("word(9), at the address written since", t.word(9), 0);
        due("word(12), with the value fetched at the begin", t.word(12), 5);
    }

    private static void nextRunSeesTheWrites() {
        DagTiler t = withNumbers(15, 1);
        t.fetch(0);
        t.add(2, 1);
        t.write(0, 3);
        t.result(2, 1);
        t.setWord(15, MAX);
        t.run();
        due("value(2)", t.value(2), MAX);
        due("word(15)", t.word(15), MIN);
        t.run();
        due("value(2)", t.value(2), MIN);
        due("word(15)", t.word(15), MIN + 1);
    }

    // ---- Promises 20 to 22

    private static void answersOfTheLastRun() {
        test("20: false if there is no node n", BoundaryTest::knownRange);
        test("20: was a result node at the last run, not since", BoundaryTest::knownIsOfTheRun);
        test("20: at the last run, not at one before", BoundaryTest::knownIsOfTheLastRun);
        test("20: and no clear came since", BoundaryTest::knownEndsWithClear);
        test("20: a node added after the run was not there", BoundaryTest::knownOfALaterNode);
        test("21: else 0", BoundaryTest::valueElseZero);
        test("21: the value in the last run, to the ends of the ints", BoundaryTest::valueOfEnds);
        test("21: the value that node n had in the last run", BoundaryTest::valueIsOfTheRun);
        test("22: digest of no known node is 0", BoundaryTest::digestOfNothing);
        test("22: over all nodes n with known(n), of the last run", BoundaryTest::digestIsOfTheRun);
        test("22: each product wraps", BoundaryTest::digestProductsWrap);
        test("22: the sum wraps", BoundaryTest::digestSumsWrap);
        test("22: (n + 1) times value(n), for n 0 to 19", BoundaryTest::digestOfEachNode);
    }

    private static void knownRange() {
        DagTiler t = withNodes(2);
        t.result(0, 1);
        t.result(1, 1);
        t.run();
        int[] missing = {-1, 2, MIN, -2, 3, 19, 20, 21, MAX};
        for (int n : missing) {
            due("known(" + n + ")", t.known(n), false);
        }
        due("known(0)", t.known(0), true);
        due("known(1)", t.known(1), true);
        DagTiler full = withNodes(NODES);
        full.result(19, 1);
        full.run();
        due("known(19)", full.known(19), true);
        due("known(20)", full.known(20), false);
    }

    private static void knownIsOfTheRun() {
        DagTiler t = withNodes(2);
        t.result(0, 1);
        t.run();
        t.result(0, 0);
        t.result(1, 1);
        due("known(0)", t.known(0), true);
        due("known(1)", t.known(1), false);
    }

    private static void knownIsOfTheLastRun() {
        DagTiler t = withNodes(2);
        t.result(0, 1);
        t.run();
        t.result(0, 0);
        t.run();
        due("known(0)", t.known(0), false);
        due("value(0)", t.value(0), 0);
        due("digest()", t.digest(), 0);
    }

    private static void knownEndsWithClear() {
        DagTiler t = withNodes(1);
        t.result(0, 1);
        t.run();
        t.clear();
        due("known(0) of no node", t.known(0), false);
        t.number(5);
        due("known(0) of a new node", t.known(0), false);
        t.result(0, 1);
        due("known(0) of a new result node", t.known(0), false);
        t.run();
        due("known(0) after a run", t.known(0), true);
        due("value(0)", t.value(0), 5);
    }

    private static void knownOfALaterNode() {
        DagTiler t = withNodes(19);
        t.result(18, 1);
        t.run();
        t.number(5);
        t.result(19, 1);
        due("known(19)", t.known(19), false);
        due("value(19)", t.value(19), 0);
        due("known(18) still", t.known(18), true);
        due("value(18) still", t.value(18), 118);
        due("digest()", t.digest(), 19 * 118);
    }

    private static void valueElseZero() {
        DagTiler t = withNodes(3);
        t.result(1, 1);
        due("value(1) before a run", t.value(1), 0);
        t.run();
        int[] unknown = {0, 2, -1, 3, MIN, -2, 19, 20, 21, MAX};
        for (int n : unknown) {
            due("value(" + n + ")", t.value(n), 0);
        }
        due("value(1)", t.value(1), 101);
        t.clear();
        due("value(1) after clear", t.value(1), 0);
    }

    private static void valueOfEnds() {
        int[] values = {MIN, BAD_ARG, FULL, 0, MAX};
        for (int v : values) {
            DagTiler t = withNumbers(v);
            due("value(0)", valueAfterRun(t, 0), v);
            due("known(0)", t.known(0), true);
        }
    }

    private static void valueIsOfTheRun() {
        DagTiler t = new DagTiler();
        t.input(0);
        t.setInput(0, 3);
        t.result(0, 1);
        t.run();
        t.setInput(0, 4);
        t.result(0, 0);
        due("value(0), no longer a result node", t.value(0), 3);
        t.result(0, 1);
        due("value(0), a result node again", t.value(0), 3);
    }

    private static void digestOfNothing() {
        due("digest() of no node", new DagTiler().digest(), 0);
        DagTiler t = withNodes(2);
        due("digest() before a run", t.digest(), 0);
        t.run();
        due("digest() without results", t.digest(), 0);
        t.result(0, 1);
        due("digest() of a result since the run", t.digest(), 0);
        t.run();
        due("digest()", t.digest(), 100);
        t.clear();
        due("digest() after clear", t.digest(), 0);
        t.number(1);
        due("digest() of a new node", t.digest(), 0);
    }

    private static void digestIsOfTheRun() {
        DagTiler t = withNodes(3);
        t.result(0, 1);
        t.result(2, 1);
        t.run();
        t.result(0, 0);
        t.result(1, 1);
        due("digest()", t.digest(), 100 + 3 * 102);
        t.run();
        due("digest() of the next run", t.digest(), 2 * 101 + 3 * 102);
    }

    private static void digestProductsWrap() {
        DagTiler t = withNumbers(0, MAX, MIN + 1, MIN);
        int[] wants = {0, -2, MIN + 3, 0};
        for (int n = 0; n < 4; n++) {
            t.result(n, 1);
            t.run();
            due("digest() of node " + n, t.digest(), wants[n]);
            t.result(n, 0);
        }
    }

    private static void digestSumsWrap() {
        DagTiler t = withNumbers(MAX, 1);
        t.result(0, 1);
        t.result(1, 1);
        t.run();
        due("digest()", t.digest(), MIN + 1);
        DagTiler down = withNumbers(MIN, -1);
        down.result(0, 1);
        down.result(1, 1);
        down.run();
        due("digest()", down.digest(), MAX - 1);
    }

    private static void digestOfEachNode() {
        DagTiler t = withNodes(NODES);
        int all = 0;
        for (int n = 0; n < NODES; n++) {
            t.result(n, 1);
            t.run();
            due("digest() of node " + n, t.digest(), (n + 1) * (100 + n));
            t.result(n, 0);
            all += (n + 1) * (100 + n);
        }
        for (int n = 0; n < NODES; n++) {
            t.result(n, 1);
        }
        t.run();
        due("digest() of 20 nodes", t.digest(), all);
    }

    // ---- A refused call answers the code named and changes nothing

    private static void refusals() {
        test("refused: number changes nothing", () -> dueNoChange("number(5)", FULL, t -> t.number(5)));
        test("refused: input changes nothing", () -> {
            dueNoChange("input(-1)", BAD_ARG, t -> t.input(-1));
            dueNoChange("input(6)", BAD_ARG, t -> t.input(6));
            dueNoChange("input(0)", FULL, t -> t.input(0));
        });
        for (Kind kind : KINDS) {
            test("refused: " + kind.name + " changes nothing", () -> dueNoChangeByKind(kind));
        }
        test("refused: shift by too few or too many places changes nothing", () -> {
            dueNoChange("shift(0, -1)", BAD_ARG, t -> t.shift(0, -1));
            dueNoChange("shift(0, 32)", BAD_ARG, t -> t.shift(0, 32));
        });
        test("refused: write changes nothing", () -> {
            dueNoChange("write(-1, 0)", BAD_ARG, t -> t.write(-1, 0));
            dueNoChange("write(0, -1)", BAD_ARG, t -> t.write(0, -1));
            dueNoChange("write(nodes(), 0)", BAD_ARG, t -> t.write(t.nodes(), 0));
            dueNoChange("write(0, nodes())", BAD_ARG, t -> t.write(0, t.nodes()));
            dueNoChange("write(0, 0)", FULL, t -> t.write(0, 0));
            dueNoChange("write(1, 2)", FULL, t -> t.write(1, 2));
        });
        test("refused: result changes nothing", () -> {
            for (int on = 0; on <= 1; on++) {
                int to = on;
                dueNoChange("result(-1, " + to + ")", BAD_ARG, t -> t.result(-1, to));
                dueNoChange("result(nodes(), " + to + ")", BAD_ARG, t -> t.result(t.nodes(), to));
                dueNoChange("result(20, " + to + ")", BAD_ARG, t -> t.result(20, to));
            }
        });
        test("refused: setInput changes nothing", () -> {
            dueNoChange("setInput(-1, 7)", BAD_ARG, t -> t.setInput(-1, 7));
            dueNoChange("setInput(6, 7)", BAD_ARG, t -> t.setInput(6, 7));
        });
        test("refused: setWord changes nothing", () -> {
            dueNoChange("setWord(-1, 7)", BAD_ARG, t -> t.setWord(-1, 7));
            dueNoChange("setWord(16, 7)", BAD_ARG, t -> t.setWord(16, 7));
        });
        test("a question changes nothing", BoundaryTest::questionsChangeNothing);
    }

    private static void dueNoChangeByKind(Kind kind) {
        for (int place = 0; place < kind.operands; place++) {
            int at = place;
            dueNoChange(kind.told(at, -1), BAD_ARG, t -> kind.onOne(t, at, -1));
            dueNoChange(kind.name + " on its own number", BAD_ARG, t -> kind.onOne(t, at, t.nodes()));
        }
        dueNoChange(kind.name + " on node 0", FULL, t -> kind.onAll(t, 0));
    }

    /** In each state where the call is refused with that code, an object goes on as its twin without the call. */
    private static void dueNoChange(String call, int code, ToIntFunction<DagTiler> refused) {
        int met = 0;
        for (Supplier<DagTiler> state : states()) {
            DagTiler t = state.get();
            if (refused.applyAsInt(t) == code) {
                met++;
                dueSame(call, t, state.get());
            }
        }
        due(call + " is refused somewhere", met > 0, true);
    }

    private static void questionsChangeNothing() {
        for (Supplier<DagTiler> state : states()) {
            DagTiler t = state.get();
            for (int n = -1; n <= NODES; n++) {
                t.known(n);
                t.value(n);
                t.word(n);
            }
            t.nodes();
            t.digest();
            dueSame("a question", t, state.get());
        }
    }

    private static void dueSame(String call, DagTiler after, DagTiler twin) {
        List<Integer> got = everything(after);
        List<Integer> want = everything(twin);
        if (!got.equals(want)) {
            wrong++;
            System.out.println("  " + call + " left a changed object: " + got + ", due is " + want);
        }
    }

    /** All that an object answers: of its last run, then of a new run, then of room, marks and inputs. */
    private static List<Integer> everything(DagTiler t) {
        List<Integer> told = new ArrayList<>();
        Consumer<Integer> tell = told::add;
        tellAnswers(t, tell);
        tell.accept(t.run());
        tellAnswers(t, tell);
        for (int n = 0; n < NODES; n++) {
            tell.accept(t.result(n, 1));
        }
        for (int w = 0; w <= WRITES; w++) {
            tell.accept(t.write(0, t.nodes() - 1));
        }
        tell.accept(t.run());
        tellAnswers(t, tell);
        for (int n = 0; n <= NODES; n++) {
            tell.accept(t.input(n % INPUTS));
            tell.accept(t.result(n, 1));
        }
        tell.accept(t.run());
        tellAnswers(t, tell);
        t.clear();
        for (int i = 0; i < INPUTS; i++) {
            t.input(i);
            tell.accept(valueAfterRun(t, i));
        }
        return told;
    }

    private static void tellAnswers(DagTiler t, Consumer<Integer> tell) {
        tell.accept(t.nodes());
        tell.accept(t.digest());
        for (int n = 0; n < NODES; n++) {
            tell.accept(t.known(n) ? 1 : 0);
            tell.accept(t.value(n));
        }
        for (int a = 0; a < WORDS; a++) {
            tell.accept(t.word(a));
        }
    }
}
