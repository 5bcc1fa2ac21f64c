import java.util.ArrayList;
import java.util.HashMap;
import java.util.List;
import java.util.Map;

/**
 * Made-up runs of calls, each answer compared with that of a model that holds its state
 * otherwise: nodes are functions of a snapshot, and a value is asked for from the top down.
 */
public final class ModelTest {
    private static final int RUNS = 4000;
    private static final int CALLS = 512;
    private static final int[] EDGES = {
        0, 1, -1, 2, 15, 16, 31, 32, -16, Integer.MIN_VALUE, Integer.MAX_VALUE, 65536, 0x55555555
    };

    /** The state that a value hangs on, as it is at the begin of a run. */
    private static final class Snapshot {
        final int[] inputs;
        final int[] words;
        final Map<Node, Integer> worked = new HashMap<>();

        Snapshot(int[] inputs, int[] words) {
            this.inputs = inputs.clone();
            this.words = words.clone();
        }

        int of(Node node) {
            Integer v = worked.get(node);
            if (v == null) {
                v = (int) node.rule.in(this);
                worked.put(node, v);
            }
            return v;
        }
    }

    private interface Rule {
        long in(Snapshot s);
    }

    private static final class Node {
        final Rule rule;
        boolean result;
        Integer last;

        Node(Rule rule) {
            this.rule = rule;
        }
    }

    private static final class Model {
        final int[] inputs = new int[6];
        final int[] words = new int[16];
        final List<Node> nodes = new ArrayList<>();
        final List<Node[]> writes = new ArrayList<>();

        boolean has(int... numbers) {
            for (int n : numbers) {
                if (n < 0 || n >= nodes.size()) {
                    return false;
                }
            }
            return true;
        }

        int put(boolean good, Rule rule) {
            if (!good) {
                return -1;
            }
            if (nodes.size() == 20) {
                return -2;
            }
            nodes.add(new Node(rule));
            return nodes.size() - 1;
        }

        Node at(int n) {
            return has(n) ? nodes.get(n) : null;
        }

        int write(int x, int y) {
            if (!has(x, y)) {
                return -1;
            }
            if (writes.size() == 4) {
                return -2;
            }
            writes.add(new Node[] {at(x), at(y)});
            return writes.size() - 1;
        }

        int result(int n, int on) {
            if (!has(n)) {
                return -1;
            }
            boolean before = at(n).result;
            at(n).result = on != 0;
            return before ? 1 : 0;
        }

        int run() {
            Snapshot s = new Snapshot(inputs, words);
            int results = 0;
            for (Node node : nodes) {
                node.last = node.result ? (Integer) s.of(node) : null;
                results += node.result ? 1 : 0;
            }
            for (Node[] w : writes) {
                words[Math.floorMod(s.of(w[0]), 16)] = s.of(w[1]);
            }
            return results;
        }

        boolean known(int n) {
            return has(n) && at(n).last != null;
        }

        int value(int n) {
            return known(n) ? at(n).last : 0;
        }

        int digest() {
            long sum = 0;
            for (int n = 0; n < nodes.size(); n++) {
                sum += (n + 1L) * value(n);
            }
            return (int) sum;
        }

        int set(int[] cells, int i, int v) {
            if (i < 0 || i >= cells.length) {
                return -1;
            }
            cells[i] = v;
            return 0;
        }

        int word(int a) {
            return a >= 0 && a < words.length ? words[a] : 0;
        }
    }

    // A row of numbers that is the same each time: a failure can be made again.
    private long seed;

    private int below(int bound) {
        seed = seed * 6364136223846793005L + 1442695040888963407L;
        return (int) ((seed >>> 33) % bound);
    }

    private int someInt() {
        int way = below(4);
        if (way == 0) {
            return EDGES[below(EDGES.length)];
        }
        return way == 1 ? below(1 << 30) * 4 + below(4) : below(40) - 12;
    }

    /** Mostly from 0 to just above the bound, now and then anything. */
    private int near(int bound) {
        int way = below(12);
        if (way == 0) {
            return someInt();
        }
        return way == 1 ? below(bound + 3) - 1 : below(Math.max(1, bound));
    }

    private final DagTiler real = new DagTiler();
    private final Model model = new Model();
    private final StringBuilder told = new StringBuilder();

    private ModelTest(long seed) {
        this.seed = seed;
    }

    private boolean same(String call, long got, long want) {
        told.append("  ").append(call).append(" -> ").append(got).append('\n');
        if (got == want) {
            return true;
        }
        System.out.print(told);
        System.out.println(call + " answered " + got + ", due is " + want);
        return false;
    }

    private boolean addSomeNode() {
        Model m = model;
        int count = m.nodes.size();
        int x = near(count);
        int y = near(count);
        int c = near(count);
        Node nx = m.at(x);
        Node ny = m.at(y);
        Node nc = m.at(c);
        String xy = "(" + x + ", " + y + ")";
        switch (below(10)) {
            case 0: {
                int v = someInt();
                return same("number(" + v + ")", real.number(v), m.put(true, s -> v));
            }
            case 1: {
                int i = near(6);
                return same("input(" + i + ")", real.input(i), m.put(i >= 0 && i < 6, s -> s.inputs[i]));
            }
            case 2:
                return same("add" + xy, real.add(x, y), m.put(m.has(x, y), s -> (long) s.of(nx) + s.of(ny)));
            case 3:
                return same("sub" + xy, real.sub(x, y), m.put(m.has(x, y), s -> (long) s.of(nx) - s.of(ny)));
            case 4:
                return same("mul" + xy, real.mul(x, y), m.put(m.has(x, y), s -> (long) s.of(nx) * s.of(ny)));
            case 5:
                return same("neg(" + x + ")", real.neg(x), m.put(m.has(x), s -> 0L - s.of(nx)));
            case 6: {
                int k = near(32);
                return same("shift(" + x + ", " + k + ")", real.shift(x, k),
                        m.put(m.has(x) && k >= 0 && k < 32, s -> s.of(nx) * (1L << k)));
            }
            case 7:
                return same("fetch(" + x + ")", real.fetch(x),
                        m.put(m.has(x), s -> s.words[Math.floorMod(s.of(nx), 16)]));
            case 8:
                return same("less" + xy, real.less(x, y),
                        m.put(m.has(x, y), s -> (long) s.of(nx) - s.of(ny) < 0 ? 1 : 0));
            default:
                return same("pick(" + c + ", " + x + ", " + y + ")", real.pick(c, x, y),
                        m.put(m.has(c, x, y), s -> s.of(nc) == 0 ? s.of(ny) : s.of(nx)));
        }
    }

    private boolean changeSomething() {
        int x = near(model.nodes.size());
        int y = near(model.nodes.size());
        int v = someInt();
        switch (below(9)) {
            case 0: case 1:
                return same("write(" + x + ", " + y + ")", real.write(x, y), model.write(x, y));
            case 2: case 3: case 4: {
                int on = below(3) == 0 ? 0 : v;
                return same("result(" + x + ", " + on + ")", real.result(x, on), model.result(x, on));
            }
            case 5: case 6: {
                int i = near(6);
                return same("setInput(" + i + ", " + v + ")", real.setInput(i, v), model.set(model.inputs, i, v));
            }
            case 7: {
                int a = near(16);
                return same("setWord(" + a + ", " + v + ")", real.setWord(a, v), model.set(model.words, a, v));
            }
            default:
                if (below(3) != 0) {
                    return true;
                }
                real.clear();
                model.nodes.clear();
                model.writes.clear();
                return same("clear(), then nodes()", real.nodes(), 0);
        }
    }

    private boolean askSomething() {
        int n = near(model.nodes.size());
        switch (below(5)) {
            case 0:
                return same("nodes()", real.nodes(), model.nodes.size());
            case 1: {
                int a = near(16);
                return same("word(" + a + ")", real.word(a), model.word(a));
            }
            case 2:
                return same("known(" + n + ")", real.known(n) ? 1 : 0, model.known(n) ? 1 : 0);
            case 3:
                return same("value(" + n + ")", real.value(n), model.value(n));
            default:
                return same("digest()", real.digest(), model.digest());
        }
    }

    private boolean askAll() {
        boolean good = same("digest()", real.digest(), model.digest());
        for (int n = 0; good && n < 20; n++) {
            good = same("known(" + n + ")", real.known(n) ? 1 : 0, model.known(n) ? 1 : 0)
                    && same("value(" + n + ")", real.value(n), model.value(n));
        }
        for (int a = 0; good && a < 16; a++) {
            good = same("word(" + a + ")", real.word(a), model.word(a));
        }
        return good;
    }

    private boolean goesWell() {
        // Room is left for the questions at the end and for clear's second call.
        for (int call = 0; call < CALLS - 100; call++) {
            int way = below(10);
            boolean good = way < 3 ? addSomeNode()
                    : way < 6 ? changeSomething()
                    : way < 7 ? same("run()", real.run(), model.run())
                    : askSomething();
            if (!good) {
                return false;
            }
        }
        return askAll();
    }

    public static void main(String[] args) {
        for (int run = 1; run <= RUNS; run++) {
            if (!new ModelTest(run * 7919L).goesWell()) {
                System.out.println("made-up run " + run + " went otherwise than the model");
                System.exit(1);
            }
        }
        System.out.println(RUNS + " made-up runs went as the model does");
    }
}
