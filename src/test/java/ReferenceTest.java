import java.util.Random;

/** Long runs of calls by a fixed seed, each answer compared with that of Reference. */
public final class ReferenceTest {
    private static final int RUNS = 400;
    private static final int CALLS = 512;
    private static final int[] ODD_NUMBERS = {-2, -1, 8, 99, Integer.MIN_VALUE, Integer.MAX_VALUE};

    private final Random random;
    private final StateExplore program;
    private final Reference reference;
    private final String name;
    private int call = 0;

    private ReferenceTest(int seed) {
        random = new Random(seed);
        int nodes = seed % 10 == 9 ? random.nextInt() : 1 + seed % 4;
        int room = seed % 10 == 8 ? -8191 + random.nextInt(60) : 1 + random.nextInt(seed % 3 == 0 ? 12 : 250);
        program = new StateExplore(nodes, room);
        reference = new Reference(nodes, room);
        name = "seed " + seed;
    }

    private ReferenceTest(int nodes, int room) {
        random = new Random(nodes);
        program = new StateExplore(nodes, room);
        reference = new Reference(nodes, room);
        name = nodes + " nodes, room " + room;
    }

    public static void main(String[] args) {
        for (int seed = 0; seed < RUNS; seed++) {
            new ReferenceTest(seed).callAll();
        }
        for (int nodes = 2; nodes <= 4; nodes++) {
            new ReferenceTest(nodes, 0).fillLargestRoom();
        }
        Check.end("ReferenceTest");
    }

    /** More wholes than 8192: nodes go round in eight states, send in six of them and answer in one. */
    private void fillLargestRoom() {
        for (int i = 1; i < 8; i++) {
            compare("state", program::state, reference::state);
        }
        for (int i = 0; i < 8; i++) {
            addRule(i, -1, (i + 1) % 8);
        }
        for (int kind = 0; kind < 6; kind++) {
            compare("message", program::message, reference::message);
            addRule(kind, -1, kind);
            addSend(8 + kind, kind, 1);
        }
        for (int kind = 0; kind < 6; kind++) {
            addRule(7, kind, 0);
            addSend(14 + kind, 5 - kind, 0);
        }
        Check.same(name + " run", program.run(), -1);
        Check.same(name + " run of the reference", reference.run(), -1);
        for (call = 100; call < CALLS; call++) {
            ask();
        }
    }

    private void addRule(int state, int event, int to) {
        compare("rule", () -> program.rule(state, event, to), () -> reference.rule(state, event, to));
    }

    private void addSend(int rule, int kind, int whom) {
        compare("sends", () -> program.sends(rule, kind, whom), () -> reference.sends(rule, kind, whom));
    }

    private void callAll() {
        int telling = 10 + random.nextInt(80);
        for (call = 0; call < CALLS; call++) {
            if (call < telling || random.nextInt(60) == 0) {
                tell();
            } else if (random.nextInt(60) == 0) {
                tellBad();
            } else if (random.nextInt(8) == 0) {
                explore();
            } else {
                ask();
            }
        }
    }

    /** A number below a bound, or just at its edges, or now and then a far one. */
    private int number(int bound) {
        int kind = random.nextInt(40);
        if (kind == 0) {
            return ODD_NUMBERS[random.nextInt(ODD_NUMBERS.length)];
        }
        return kind == 1 ? bound : bound < 1 ? 0 : random.nextInt(bound);
    }

    private void compare(String text, java.util.function.IntSupplier got, java.util.function.IntSupplier due) {
        Check.same(name + " call " + call + " " + text, Check.answer(got), Check.answer(due));
    }

    private void tell() {
        int kind = random.nextInt(20);
        int a = number(reference.count(1));
        int b = number(reference.count(1));
        int m = number(reference.count(2));
        if (kind < 3) {
            compare("state", program::state, reference::state);
        } else if (kind < 6) {
            compare("message", program::message, reference::message);
        } else if (kind < 13) {
            int event = random.nextBoolean() ? -1 : m;
            compare("rule", () -> program.rule(a, event, b), () -> reference.rule(a, event, b));
        } else if (kind < 19) {
            int rule = number(reference.count(3));
            int whom = number(2);
            compare("sends", () -> program.sends(rule, m, whom), () -> reference.sends(rule, m, whom));
        } else if (random.nextInt(3) == 0) {
            tellBad();
        }
    }

    private void tellBad() {
        int a = number(reference.count(1));
        int b = number(reference.count(1));
        compare("bad", () -> program.bad(a, b) ? 1 : 0, () -> reference.bad(a, b));
    }

    private void explore() {
        int n = random.nextInt(10) == 0 ? number(1001) : 1 + random.nextInt(20);
        if (random.nextInt(4) == 0) {
            compare("run", program::run, reference::run);
        } else {
            compare("go " + n, () -> program.go(n), () -> reference.go(n));
        }
    }

    private void ask() {
        int k = number(reference.count(4));
        int i = random.nextInt(9) - 1;
        int what = random.nextInt(14) - 1;
        switch (random.nextInt(6)) {
            case 0: compare("node " + k, () -> program.node(k, i), () -> reference.node(k, i)); break;
            case 1: compare("code " + k, () -> program.code(k, i), () -> reference.code(k, i)); break;
            case 2: compare("whole " + k + " " + i, () -> program.whole(k, i), () -> reference.whole(k, i)); break;
            case 3: compare("way", program::way, reference::way); break;
            case 4: compare("wayAt " + i, () -> program.wayAt(i), () -> reference.wayAt(i)); break;
            default: compare("count " + what, () -> program.count(what), () -> reference.count(what)); break;
        }
    }
}
