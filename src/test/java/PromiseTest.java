/** For each promise of the document: ordinary inputs, the edges it names, and wrong inputs. */
public final class PromiseTest {
    private static final int MIN = Integer.MIN_VALUE;
    private static final int MAX = Integer.MAX_VALUE;
    private static final int BAD_ARG = -1;
    private static final int FULL = -2;

    private static int promise = 0;
    private static int wrong = 0;

    private static void due(String call, long got, long want) {
        if (got != want) {
            wrong++;
            System.out.println("promise " + promise + ": " + call + " answered " + got + ", due is " + want);
        }
    }

    private static void due(String call, boolean got, boolean want) {
        due(call, got ? 1L : 0L, want ? 1L : 0L);
    }

    public static void main(String[] args) {
        promise = 0;
        due("BAD_ARG", DagTiler.BAD_ARG, BAD_ARG);
        due("FULL", DagTiler.FULL, FULL);
        promise = 1;
        newObject();
        promise = 2;
        number();
        promise = 3;
        input();
        promise = 4;
        add();
        promise = 5;
        sub();
        promise = 6;
        mul();
        promise = 7;
        neg();
        promise = 8;
        shift();
        promise = 9;
        fetch();
        promise = 10;
        less();
        promise = 11;
        pick();
        promise = 12;
        write();
        promise = 13;
        result();
        promise = 14;
        nodes();
        promise = 15;
        clear();
        promise = 16;
        setInput();
        promise = 17;
        setWord();
        promise = 18;
        word();
        promise = 19;
        run();
        promise = 20;
        known();
        promise = 21;
        value();
        promise = 22;
        digest();
        System.out.println(wrong == 0 ? "all promises hold" : wrong + " answers are not as due");
        if (wrong != 0) {
            System.exit(1);
        }
    }

    // ---- helpers

    /** One node of the named kind on the nodes c, x and y, as far as the kind takes them. */
    private static int addNode(DagTiler t, String kind, int c, int x, int y) {
        switch (kind) {
            case "add": return t.add(c, x);
            case "sub": return t.sub(c, x);
            case "mul": return t.mul(c, x);
            case "less": return t.less(c, x);
            case "neg": return t.neg(c);
            case "fetch": return t.fetch(c);
            case "shift": return t.shift(c, 1);
            case "pick": return t.pick(c, x, y);
            default: throw new IllegalArgumentException(kind);
        }
    }

    private static int operandsOf(String kind) {
        switch (kind) {
            case "neg": case "fetch": case "shift": return 1;
            case "pick": return 3;
            default: return 2;
        }
    }

    private static DagTiler withNumbers(int... numbers) {
        DagTiler t = new DagTiler();
        for (int v : numbers) {
            t.number(v);
        }
        return t;
    }

    private static DagTiler fullOfNodes() {
        DagTiler t = new DagTiler();
        for (int n = 0; n < 20; n++) {
            t.number(n);
        }
        return t;
    }

    /** Node n as the one result of a run. */
    private static int valueAfterRun(DagTiler t, int n) {
        t.result(n, 1);
        t.run();
        return t.value(n);
    }

    private static void dueForTwo(String kind, int left, int right, int want) {
        DagTiler t = withNumbers(left, right);
        due(kind + " as a node", addNode(t, kind, 0, 1, 0), 2);
        due(kind + " of " + left + " and " + right, valueAfterRun(t, 2), want);
    }

    private static void dueForOne(String kind, int v, int want) {
        DagTiler t = withNumbers(v);
        due(kind + " as a node", addNode(t, kind, 0, 0, 0), 1);
        due(kind + " of " + v, valueAfterRun(t, 1), want);
    }

    /** Every operand in turn is one that is not there, with room and without, and nothing may change. */
    private static void dueRefusals(String kind) {
        DagTiler none = new DagTiler();
        due(kind + " in an empty block", addNode(none, kind, 0, 0, 0), BAD_ARG);
        due("nodes()", none.nodes(), 0);
        DagTiler room = withNumbers(3, 4, 5);
        DagTiler full = fullOfNodes();
        int[] missing = {-1, 20, 21, MIN, MAX};
        for (int place = 0; place < operandsOf(kind); place++) {
            for (int bad : missing) {
                int c = place == 0 ? bad : 0;
                int x = place == 1 ? bad : 1;
                int y = place == 2 ? bad : 2;
                due(kind + " on node " + bad, addNode(room, kind, c, x, y), BAD_ARG);
                due(kind + " on node " + bad + " when full", addNode(full, kind, c, x, y), BAD_ARG);
            }
            int next = 3;
            due(kind + " on its own number", addNode(room, kind, place == 0 ? next : 0,
                    place == 1 ? next : 1, place == 2 ? next : 2), BAD_ARG);
        }
        due("nodes()", room.nodes(), 3);
        due(kind + " after refusals", addNode(room, kind, 2, 2, 2), 3);
        due(kind + " when full", addNode(full, kind, 19, 19, 19), FULL);
        due("nodes()", full.nodes(), 20);
        dueFullOfNumbers(full);
    }

    private static void dueFullOfNumbers(DagTiler full) {
        for (int n = 0; n < 20; n++) {
            full.result(n, 1);
        }
        due("run() of 20 results", full.run(), 20);
        for (int n = 0; n < 20; n++) {
            due("value(" + n + ") in a full block", full.value(n), n);
        }
    }

    private static void dueOneNodeFewerThanFull(String kind) {
        DagTiler t = new DagTiler();
        for (int n = 0; n < 19; n++) {
            t.number(n);
        }
        due(kind + " as the last node", addNode(t, kind, 0, 1, 2), 19);
        due(kind + " as one too many", addNode(t, kind, 0, 1, 2), FULL);
    }

    // ---- the promises

    private static void newObject() {
        DagTiler t = new DagTiler();
        due("nodes()", t.nodes(), 0);
        due("digest()", t.digest(), 0);
        for (int a = 0; a < 16; a++) {
            due("word(" + a + ")", t.word(a), 0);
        }
        for (int n = -1; n <= 20; n++) {
            due("known(" + n + ")", t.known(n), false);
            due("value(" + n + ")", t.value(n), 0);
        }
        for (int i = 0; i < 6; i++) {
            due("input(" + i + ")", t.input(i), i);
            t.result(i, 1);
            due("known before a run", t.known(i), false);
        }
        due("run()", t.run(), 6);
        for (int i = 0; i < 6; i++) {
            due("value of input " + i, t.value(i), 0);
        }
        due("the first write", t.write(0, 0), 0);

        DagTiler one = new DagTiler();
        DagTiler other = new DagTiler();
        one.number(3);
        one.setWord(2, 9);
        due("nodes() of another object", other.nodes(), 0);
        due("word(2) of another object", other.word(2), 0);
    }

    private static void number() {
        int[] numbers = {0, 1, -1, 5, MIN, MAX};
        DagTiler t = new DagTiler();
        for (int n = 0; n < numbers.length; n++) {
            due("number(" + numbers[n] + ")", t.number(numbers[n]), n);
            t.result(n, 1);
        }
        t.run();
        for (int n = 0; n < numbers.length; n++) {
            due("value(" + n + ")", t.value(n), numbers[n]);
        }
        DagTiler full = new DagTiler();
        for (int n = 0; n < 20; n++) {
            due("number(" + n + ")", full.number(n), n);
        }
        due("number(77)", full.number(77), FULL);
        due("nodes()", full.nodes(), 20);
        dueFullOfNumbers(full);
    }

    private static void input() {
        DagTiler t = new DagTiler();
        int[] bad = {-1, 6, 7, MIN, MAX};
        for (int i : bad) {
            due("input(" + i + ")", t.input(i), BAD_ARG);
        }
        due("nodes()", t.nodes(), 0);
        for (int i = 0; i < 6; i++) {
            t.setInput(i, 100 + i);
            due("input(" + (5 - i) + ")", t.input(5 - i), i);
            t.result(i, 1);
        }
        t.run();
        for (int n = 0; n < 6; n++) {
            due("value(" + n + ")", t.value(n), 105 - n);
        }
        DagTiler full = fullOfNodes();
        due("input(6) when full", full.input(6), BAD_ARG);
        due("input(-1) when full", full.input(-1), BAD_ARG);
        due("input(5) when full", full.input(5), FULL);
        due("input(0) when full", full.input(0), FULL);
        dueFullOfNumbers(full);
    }

    private static void add() {
        dueForTwo("add", 3, 4, 7);
        dueForTwo("add", -3, 1, -2);
        dueForTwo("add", MAX, 1, MIN);
        dueForTwo("add", MIN, MIN, 0);
        dueForTwo("add", MIN, -1, MAX);
        DagTiler t = withNumbers(21);
        t.add(0, 0);
        due("a node added to itself", valueAfterRun(t, 1), 42);
        dueRefusals("add");
        dueOneNodeFewerThanFull("add");
    }

    private static void sub() {
        dueForTwo("sub", 3, 4, -1);
        dueForTwo("sub", 4, 3, 1);
        dueForTwo("sub", MIN, 1, MAX);
        dueForTwo("sub", 0, MIN, MIN);
        dueForTwo("sub", MAX, -1, MIN);
        dueRefusals("sub");
        dueOneNodeFewerThanFull("sub");
    }

    private static void mul() {
        dueForTwo("mul", 3, 4, 12);
        dueForTwo("mul", -3, 4, -12);
        dueForTwo("mul", 0, MIN, 0);
        dueForTwo("mul", MIN, -1, MIN);
        dueForTwo("mul", 65536, 65536, 0);
        dueForTwo("mul", MAX, MAX, 1);
        dueForTwo("mul", MAX, 2, -2);
        dueRefusals("mul");
        dueOneNodeFewerThanFull("mul");
    }

    private static void neg() {
        dueForOne("neg", 5, -5);
        dueForOne("neg", -5, 5);
        dueForOne("neg", 0, 0);
        dueForOne("neg", MIN, MIN);
        dueForOne("neg", MAX, -MAX);
        dueRefusals("neg");
        dueOneNodeFewerThanFull("neg");
    }

    private static void shift() {
        for (int k = 0; k <= 31; k++) {
            int[] numbers = {1, -1, 3, 0x12345678, MIN, MAX};
            for (int v : numbers) {
                DagTiler t = withNumbers(v);
                due("shift(0, " + k + ")", t.shift(0, k), 1);
                // By doubling, so that the test does not lean on the shift itself.
                int want = v;
                for (int places = 0; places < k; places++) {
                    want += want;
                }
                due(v + " shifted by " + k, valueAfterRun(t, 1), want);
            }
        }
        int[] badPlaces = {-1, 32, 33, 64, MIN, MAX};
        DagTiler t = withNumbers(1);
        DagTiler full = fullOfNodes();
        for (int k : badPlaces) {
            due("shift(0, " + k + ")", t.shift(0, k), BAD_ARG);
            due("shift(0, " + k + ") when full", full.shift(0, k), BAD_ARG);
        }
        due("nodes()", t.nodes(), 1);
        due("shift(0, 0) when full", full.shift(0, 0), FULL);
        due("shift(0, 31) when full", full.shift(0, 31), FULL);
        due("shift(1, 0)", t.shift(1, 0), BAD_ARG);
        // The places are no node: they need not be there as one.
        due("shift(0, 31)", t.shift(0, 31), 1);
        dueRefusals("shift");
        dueOneNodeFewerThanFull("shift");
    }

    private static void fetch() {
        int[] addresses = {0, 1, 7, 15, 16, 17, 31, -1, -16, -17, 256, MIN, MAX};
        for (int address : addresses) {
            DagTiler t = withNumbers(address);
            for (int a = 0; a < 16; a++) {
                t.setWord(a, 1000 + a);
            }
            due("fetch(0)", t.fetch(0), 1);
            due("the word at " + address, valueAfterRun(t, 1), 1000 + Math.floorMod(address, 16));
        }
        fetchSeesTheBeginOfTheRun();
        dueRefusals("fetch");
        dueOneNodeFewerThanFull("fetch");
    }

    private static void fetchSeesTheBeginOfTheRun() {
        DagTiler t = withNumbers(3, 50);
        t.setWord(3, 8);
        t.write(0, 1);
        t.fetch(0);
        t.write(2, 2);
        t.result(2, 1);
        t.run();
        due("a fetch of a word that is written", t.value(2), 8);
        due("word(3)", t.word(3), 50);
        due("word(8)", t.word(8), 8);
        t.run();
        due("the fetch in the next run", t.value(2), 50);
        due("word(2)", t.word(2), 50);
    }

    private static void less() {
        dueForTwo("less", 3, 4, 1);
        dueForTwo("less", 4, 3, 0);
        dueForTwo("less", 4, 4, 0);
        dueForTwo("less", -1, 0, 1);
        dueForTwo("less", 0, -1, 0);
        dueForTwo("less", MIN, MAX, 1);
        dueForTwo("less", MAX, MIN, 0);
        dueForTwo("less", MIN, 1, 1);
        dueForTwo("less", MIN, MIN, 0);
        dueRefusals("less");
        dueOneNodeFewerThanFull("less");
    }

    private static void pick() {
        int[] conditions = {0, 1, -1, 2, 16, 256, MIN, MAX};
        for (int c : conditions) {
            DagTiler t = withNumbers(c, 70, 80);
            due("pick(0, 1, 2)", t.pick(0, 1, 2), 3);
            due("pick on " + c, valueAfterRun(t, 3), c != 0 ? 70 : 80);
        }
        DagTiler same = withNumbers(0);
        due("pick(0, 0, 0)", same.pick(0, 0, 0), 1);
        due("pick of one node", valueAfterRun(same, 1), 0);
        dueRefusals("pick");
        dueOneNodeFewerThanFull("pick");
    }

    private static void write() {
        DagTiler t = withNumbers(2, 30, 4, 50);
        due("write(0, 1)", t.write(0, 1), 0);
        due("write(2, 3)", t.write(2, 3), 1);
        due("word(2) before the run", t.word(2), 0);
        t.run();
        due("word(2)", t.word(2), 30);
        due("word(4)", t.word(4), 50);
        due("word(3)", t.word(3), 0);
        writeRefusals();
        writeAddresses();
        writesInOrder();
    }

    private static void writeRefusals() {
        DagTiler t = withNumbers(1, 2);
        int[] missing = {-1, 2, 4, 20, MIN, MAX};
        due("write in an empty block", new DagTiler().write(0, 0), BAD_ARG);
        for (int bad : missing) {
            due("write(" + bad + ", 0)", t.write(bad, 0), BAD_ARG);
            due("write(0, " + bad + ")", t.write(0, bad), BAD_ARG);
        }
        for (int w = 0; w < 4; w++) {
            due("write(0, 1)", t.write(0, 1), w);
        }
        due("a fifth write", t.write(1, 0), FULL);
        for (int bad : missing) {
            due("write(" + bad + ", 0) after 4", t.write(bad, 0), BAD_ARG);
            due("write(0, " + bad + ") after 4", t.write(0, bad), BAD_ARG);
        }
        t.run();
        due("word(1)", t.word(1), 2);
        due("word(2), of the refused write", t.word(2), 0);
        due("a node beside 4 writes", t.number(3), 2);

        DagTiler full = fullOfNodes();
        for (int w = 0; w < 4; w++) {
            due("write beside 20 nodes", full.write(19, 19), w);
        }
    }

    private static void writeAddresses() {
        int[] addresses = {0, 15, 16, 33, -1, -16, MIN, MAX};
        for (int address : addresses) {
            DagTiler t = withNumbers(address, 9);
            t.write(0, 1);
            t.run();
            for (int a = 0; a < 16; a++) {
                due("word(" + a + ") after a write to " + address, t.word(a),
                        a == Math.floorMod(address, 16) ? 9 : 0);
            }
        }
    }

    private static void writesInOrder() {
        DagTiler t = withNumbers(5, 21, 10, 20, 30);
        t.write(0, 2);
        t.write(1, 3);
        t.run();
        due("the later of two writes", t.word(5), 20);
        t.write(0, 4);
        t.write(1, 2);
        t.run();
        due("the last of four writes", t.word(5), 10);

        // Both words are taken before either is written: they change places.
        DagTiler swap = withNumbers(1, 2);
        swap.fetch(0);
        swap.fetch(1);
        swap.write(0, 3);
        swap.write(1, 2);
        swap.setWord(1, 11);
        swap.setWord(2, 22);
        due("run() without results", swap.run(), 0);
        due("word(1)", swap.word(1), 22);
        due("word(2)", swap.word(2), 11);
    }

    private static void result() {
        DagTiler t = withNumbers(7, 8);
        int[] missing = {-1, 2, 20, MIN, MAX};
        for (int n : missing) {
            due("result(" + n + ", 1)", t.result(n, 1), BAD_ARG);
            due("result(" + n + ", 0)", t.result(n, 0), BAD_ARG);
        }
        due("run() after refusals", t.run(), 0);
        due("result(0, 0)", t.result(0, 0), 0);
        due("result(0, 1)", t.result(0, 1), 0);
        due("result(0, -1)", t.result(0, -1), 1);
        due("result(0, 2)", t.result(0, 2), 1);
        due("result(0, MIN)", t.result(0, MIN), 1);
        due("run()", t.run(), 1);
        due("result(1, 256)", t.result(1, 256), 0);
        due("run()", t.run(), 2);
        due("result(0, 0)", t.result(0, 0), 1);
        due("result(0, 0)", t.result(0, 0), 0);
        due("run()", t.run(), 1);
        due("known(0)", t.known(0), false);
        due("known(1)", t.known(1), true);

        DagTiler later = withNumbers(1);
        due("result(1, 1) of no node yet", later.result(1, 1), BAD_ARG);
        later.number(2);
        due("result(1, 0) of a new node", later.result(1, 0), 0);
    }

    private static void nodes() {
        DagTiler t = new DagTiler();
        for (int n = 0; n < 20; n++) {
            due("nodes()", t.nodes(), n);
            t.number(n);
            t.input(6);
            t.write(0, 0);
            t.result(0, 1);
        }
        due("nodes()", t.nodes(), 20);
        t.number(0);
        t.run();
        due("nodes()", t.nodes(), 20);
        t.clear();
        due("nodes()", t.nodes(), 0);
    }

    private static void clear() {
        DagTiler t = fullOfNodes();
        for (int n = 0; n < 20; n++) {
            t.result(n, 1);
        }
        for (int w = 0; w < 4; w++) {
            t.write(w, 10);
        }
        t.setInput(4, 44);
        t.setWord(9, 99);
        t.run();
        t.clear();
        due("nodes()", t.nodes(), 0);
        due("digest()", t.digest(), 0);
        for (int n = 0; n < 20; n++) {
            due("known(" + n + ")", t.known(n), false);
            due("value(" + n + ")", t.value(n), 0);
            due("result(" + n + ", 1)", t.result(n, 1), BAD_ARG);
        }
        due("word(9)", t.word(9), 99);
        due("word(0)", t.word(0), 10);
        due("add(0, 0)", t.add(0, 0), BAD_ARG);
        afterClear(t);
    }

    private static void afterClear(DagTiler t) {
        t.setWord(0, 5);
        due("run() of nothing", t.run(), 0);
        due("word(0), with no write left", t.word(0), 5);
        due("input(4)", t.input(4), 0);
        due("number(6)", t.number(6), 1);
        due("known(0) of a new node", t.known(0), false);
        due("value(1) of a new node", t.value(1), 0);
        due("digest() of new nodes", t.digest(), 0);
        due("run() of new nodes", t.run(), 0);
        due("word(0)", t.word(0), 5);
        due("result(0, 1) of a new node", t.result(0, 1), 0);
        due("the first write again", t.write(1, 0), 0);
        due("run()", t.run(), 1);
        due("value of the input that stayed", t.value(0), 44);
        due("word(6)", t.word(6), 44);
        t.clear();
        t.clear();
        due("nodes() after two clears", t.nodes(), 0);
        for (int n = 0; n < 20; n++) {
            due("number(1)", t.number(1), n);
            due("result of a new node", t.result(n, 0), 0);
        }
        for (int w = 0; w < 4; w++) {
            due("write(0, 0)", t.write(0, 0), w);
        }
    }

    private static void setInput() {
        DagTiler t = new DagTiler();
        int[] bad = {-1, 6, 16, MIN, MAX};
        int[] values = {1, -1, MIN, MAX, 0, 77};
        for (int i = 0; i < 6; i++) {
            due("setInput(" + i + ")", t.setInput(i, values[i]), 0);
            t.input(i);
            t.result(i, 1);
        }
        for (int i : bad) {
            due("setInput(" + i + ", 5)", t.setInput(i, 5), BAD_ARG);
        }
        t.run();
        for (int i = 0; i < 6; i++) {
            due("value of input " + i, t.value(i), values[i]);
        }
        due("setInput(0, 2)", t.setInput(0, 2), 0);
        due("value(0) until the next run", t.value(0), 1);
        t.run();
        due("value(0)", t.value(0), 2);
        due("value(1)", t.value(1), -1);
        for (int a = 0; a < 16; a++) {
            due("word(" + a + ")", t.word(a), 0);
        }
    }

    private static void setWord() {
        DagTiler t = new DagTiler();
        int[] bad = {-1, 16, 17, MIN, MAX};
        for (int a = 0; a < 16; a++) {
            due("setWord(" + a + ")", t.setWord(a, a * a - 50), 0);
        }
        for (int a : bad) {
            due("setWord(" + a + ", 5)", t.setWord(a, 5), BAD_ARG);
        }
        for (int a = 0; a < 16; a++) {
            due("word(" + a + ")", t.word(a), a * a - 50);
        }
        t.setWord(15, MIN);
        t.setWord(15, MAX);
        due("word(15)", t.word(15), MAX);
        t.setWord(0, MIN);
        due("word(0)", t.word(0), MIN);

        DagTiler seen = withNumbers(2);
        seen.fetch(0);
        seen.setWord(2, 6);
        due("a fetch of the word", valueAfterRun(seen, 1), 6);
        seen.setWord(2, 7);
        due("the fetch until the next run", seen.value(1), 6);
        seen.run();
        due("the fetch in the next run", seen.value(1), 7);
    }

    private static void word() {
        DagTiler t = new DagTiler();
        for (int a = 0; a < 16; a++) {
            t.setWord(a, 200 + a);
        }
        for (int a = 0; a < 16; a++) {
            due("word(" + a + ")", t.word(a), 200 + a);
        }
        int[] bad = {-1, -16, 16, 17, 32, MIN, MAX};
        for (int a : bad) {
            due("word(" + a + ")", t.word(a), 0);
        }
    }

    private static void run() {
        DagTiler t = new DagTiler();
        due("run() of an empty block", t.run(), 0);
        t.input(0);
        t.number(1);
        t.add(0, 1);
        due("run() without results", t.run(), 0);
        t.result(2, 1);
        t.result(2, 1);
        due("run()", t.run(), 1);
        t.result(0, 1);
        due("run()", t.run(), 2);
        due("run() again", t.run(), 2);
        t.result(0, 0);
        due("run()", t.run(), 1);

        // Each run begins with the memory that the one before has left.
        DagTiler counter = withNumbers(12, 1);
        counter.fetch(0);
        counter.add(2, 1);
        counter.write(0, 3);
        counter.result(2, 1);
        for (int turn = 0; turn < 5; turn++) {
            due("run()", counter.run(), 1);
            due("value(2)", counter.value(2), turn);
            due("word(12)", counter.word(12), turn + 1);
        }
        counter.setWord(12, 60);
        counter.run();
        due("value(2) of a word set after a run", counter.value(2), 60);
        due("word(12)", counter.word(12), 61);
        sharedParts();
    }

    private static void sharedParts() {
        DagTiler t = new DagTiler();
        t.input(5);
        for (int n = 1; n < 20; n++) {
            t.add(n - 1, n - 1);
        }
        t.setInput(5, 3);
        due("a chain of doublings", valueAfterRun(t, 19), 3 << 19);
        due("a part that is no result", t.value(18), 0);
    }

    private static void known() {
        DagTiler t = withNumbers(5, 6, 7);
        int[] missing = {-1, 3, 20, MIN, MAX};
        t.result(1, 1);
        due("known(1) before a run", t.known(1), false);
        t.write(0, 2);
        t.run();
        due("known(0), which only a write uses", t.known(0), false);
        due("known(1)", t.known(1), true);
        due("known(2), which only a write uses", t.known(2), false);
        for (int n : missing) {
            due("known(" + n + ")", t.known(n), false);
        }
        t.result(1, 0);
        t.result(2, 1);
        due("known(1) until the next run", t.known(1), true);
        due("known(2) until the next run", t.known(2), false);
        t.number(8);
        due("known(3), added after the run", t.known(3), false);
        t.result(3, 1);
        due("known(3), added after the run", t.known(3), false);
        t.run();
        due("known(1)", t.known(1), false);
        due("known(2)", t.known(2), true);
        due("known(3)", t.known(3), true);
        t.clear();
        due("known(2) after clear", t.known(2), false);
        t.number(1);
        t.number(1);
        t.number(1);
        due("known(2) of a new node", t.known(2), false);
        t.run();
        due("known(2) of a new node after a run", t.known(2), false);
    }

    private static void value() {
        DagTiler t = new DagTiler();
        t.input(0);
        t.number(9);
        t.mul(0, 1);
        t.setInput(0, 4);
        t.result(2, 1);
        due("value(2) before a run", t.value(2), 0);
        t.write(1, 1);
        t.run();
        due("value(2)", t.value(2), 36);
        due("value(1), no result", t.value(1), 0);
        int[] missing = {-1, 3, 20, MIN, MAX};
        for (int n : missing) {
            due("value(" + n + ")", t.value(n), 0);
        }
        t.setInput(0, 5);
        t.result(1, 1);
        t.result(2, 0);
        due("value(1) until the next run", t.value(1), 0);
        due("value(2) until the next run", t.value(2), 36);
        t.run();
        due("value(1)", t.value(1), 9);
        due("value(2), no longer a result", t.value(2), 0);
        t.result(2, 1);
        due("value(2) until the next run", t.value(2), 0);
        t.run();
        due("value(2)", t.value(2), 45);
        t.clear();
        due("value(2) after clear", t.value(2), 0);
    }

    private static void digest() {
        DagTiler t = withNumbers(10, -20, 300, 4000);
        due("digest() before a run", t.digest(), 0);
        t.result(0, 1);
        t.result(1, 1);
        t.result(3, 1);
        due("digest() before a run", t.digest(), 0);
        t.run();
        due("digest()", t.digest(), 10 - 40 + 16000);
        t.result(3, 0);
        t.result(2, 1);
        due("digest() until the next run", t.digest(), 10 - 40 + 16000);
        t.run();
        due("digest()", t.digest(), 10 - 40 + 900);
        t.clear();
        due("digest() after clear", t.digest(), 0);

        DagTiler wraps = withNumbers(MAX, MAX, MIN, MIN + 7);
        for (int n = 0; n < 4; n++) {
            wraps.result(n, 1);
        }
        wraps.run();
        long sum = 1L * MAX + 2L * MAX + 3L * MIN + 4L * (MIN + 7);
        due("digest() that wraps", wraps.digest(), (int) sum);

        DagTiler full = fullOfNodes();
        dueFullOfNumbers(full);
        int want = 0;
        for (int n = 0; n < 20; n++) {
            want += (n + 1) * n;
        }
        due("digest() of 20 results", full.digest(), want);
    }
}
