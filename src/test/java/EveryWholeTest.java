import java.util.ArrayDeque;
import java.util.ArrayList;
import java.util.Collections;
import java.util.HashSet;
import java.util.List;
import java.util.Random;
import java.util.Set;

/**
 * Goes through every whole by itself, without forms: as many must be there, and as many steps, as
 * the forms stand for. What is told of forms and numberings is no part of this, so a fault in it
 * can not be in both.
 */
public final class EveryWholeTest {
    private static final int MODELS = 300;
    private static final int MOST = 20000;

    private final Random random;
    private final int nodes;
    private final StateExplore program;
    private final List<int[]> rules = new ArrayList<>();
    private final List<List<int[]>> sent = new ArrayList<>();
    private final Set<List<Integer>> seen = new HashSet<>();
    private long steps = 0;

    private EveryWholeTest(int seed) {
        random = new Random(seed);
        nodes = 1 + seed % 4;
        program = Models.with(new StateExplore(nodes, 0), 2 + random.nextInt(3), 1 + random.nextInt(3));
        int count = 2 + random.nextInt(5);
        for (int rule = 0; rule < count; rule++) {
            tellRule(rule);
        }
    }

    private void tellRule(int rule) {
        int states = program.count(1);
        int event = random.nextInt(3) == 0 ? -1 : random.nextInt(program.count(2));
        int[] told = {rule == 0 ? 0 : random.nextInt(states), rule == 0 ? -1 : event, random.nextInt(states)};
        program.rule(told[0], told[1], told[2]);
        rules.add(told);
        sent.add(new ArrayList<>());
        for (int i = random.nextInt(3); i > 0; i--) {
            int kind = random.nextInt(program.count(2));
            int whom = told[1] == -1 ? 1 : random.nextInt(2);
            program.sends(rule, kind, whom);
            sent.get(rule).add(new int[] {kind, whom});
        }
    }

    public static void main(String[] args) {
        int compared = 0;
        int large = 0;
        for (int seed = 0; seed < MODELS; seed++) {
            EveryWholeTest test = new EveryWholeTest(seed);
            int forms = test.program.run();
            if (forms > 0 && test.program.count(10) <= MOST) {
                test.compare("model " + seed, forms);
                compared++;
                large += forms > 50 ? 1 : 0;
            }
        }
        Check.same("most of the models have an end", compared > MODELS / 2, true);
        Check.same("some of them are large", large > 20, true);
        Check.end("EveryWholeTest");
    }

    private void compare(String name, int forms) {
        goThroughAll();
        Check.same(name + ": wholes", program.count(10), seen.size());
        int numberings = 1;
        for (int i = 2; i <= nodes; i++) {
            numberings *= i;
        }
        // An object is used for 512 calls, so only small models are asked whole by whole.
        if (forms <= 200) {
            long sum = 0;
            for (int k = 0; k < forms; k++) {
                sum += (long) program.whole(k, 4) * (numberings / program.whole(k, 5));
            }
            Check.same(name + ": steps", sum, steps);
        }
    }

    private void goThroughAll() {
        ArrayDeque<List<Integer>> open = new ArrayDeque<>();
        List<Integer> first = new ArrayList<>(Collections.nCopies(nodes, 0));
        seen.add(first);
        open.add(first);
        while (!open.isEmpty()) {
            List<Integer> whole = open.remove();
            for (List<Integer> next : after(whole)) {
                steps++;
                if (seen.add(next)) {
                    open.add(next);
                }
            }
        }
    }

    /** What comes of each step; a whole is its states, then its codes. */
    private List<List<Integer>> after(List<Integer> whole) {
        List<List<Integer>> all = new ArrayList<>();
        for (int rule = 0; rule < rules.size(); rule++) {
            for (int node = 0; node < nodes; node++) {
                if (whole.get(node) != rules.get(rule)[0]) {
                    continue;
                }
                if (rules.get(rule)[1] == -1) {
                    addStep(all, whole, rule, node, -1);
                }
                for (int code : new HashSet<>(whole.subList(nodes, whole.size()))) {
                    if (code / 16 == rules.get(rule)[1] && code % 4 == node) {
                        addStep(all, whole, rule, node, code);
                    }
                }
            }
        }
        return all;
    }

    private void addStep(List<List<Integer>> all, List<Integer> whole, int rule, int node, int code) {
        List<Integer> codes = new ArrayList<>(whole.subList(nodes, whole.size()));
        codes.remove((Integer) code);
        for (int[] one : sent.get(rule)) {
            for (int to = 0; to < nodes; to++) {
                if (one[1] == 0 ? to == code / 4 % 4 : to != node) {
                    codes.add(16 * one[0] + 4 * node + to);
                }
            }
        }
        if (codes.size() <= 7) {
            Collections.sort(codes);
            List<Integer> next = new ArrayList<>(whole.subList(0, nodes));
            next.set(node, rules.get(rule)[2]);
            next.addAll(codes);
            all.add(next);
        }
    }
}
