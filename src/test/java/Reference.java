import java.util.ArrayList;
import java.util.Arrays;
import java.util.Collections;
import java.util.HashMap;
import java.util.List;
import java.util.Map;

/**
 * The document once more, in lists and maps and by its words alone, to compare the program with.
 * A whole is the list of its numbers: states, how many are on their way, codes.
 */
final class Reference {
    private static final int GOING = 0;

    private final int nodes;
    private final int room;
    private int states = 1;
    private int kinds = 0;
    private final List<int[]> rules = new ArrayList<>();
    private final List<List<int[]>> sent = new ArrayList<>();
    private final boolean[][] badPairs = new boolean[8][8];
    private final List<int[]> numberings = new ArrayList<>();

    private final List<List<Integer>> wholes = new ArrayList<>();
    private final Map<List<Integer>, Integer> numbers = new HashMap<>();
    /** Of each whole: level, origin, rule, steps. */
    private final List<int[]> facts = new ArrayList<>();
    private int ending = GOING;
    private int gone = 0;
    private int steps = 0;
    private int stepsBack = 0;

    Reference(int nodes, int room) {
        this.nodes = 1 + (int) ((((long) nodes - 1) % 4 + 4) % 4);
        this.room = 1 + (int) ((((long) room - 1) % 8192 + 8192) % 8192);
        fillNumberings(new int[this.nodes], 0);
    }

    private void fillNumberings(int[] row, int at) {
        if (at == nodes) {
            numberings.add(row.clone());
            return;
        }
        for (int number = 0; number < nodes; number++) {
            boolean free = true;
            for (int i = 0; i < at; i++) {
                free &= row[i] != number;
            }
            if (free) {
                row[at] = number;
                fillNumberings(row, at + 1);
            }
        }
    }

    private void forget() {
        wholes.clear();
        numbers.clear();
        facts.clear();
        ending = GOING;
        gone = 0;
        steps = 0;
        stepsBack = 0;
    }

    private static void refuse(boolean when, RuntimeException e) {
        if (when) {
            throw e;
        }
    }

    int state() {
        refuse(states == 8, new UnsupportedOperationException());
        forget();
        states++;
        return states - 1;
    }

    int message() {
        refuse(kinds == 6, new UnsupportedOperationException());
        forget();
        kinds++;
        return kinds - 1;
    }

    private boolean isState(int s) {
        return 0 <= s && s < states;
    }

    int rule(int state, int event, int to) {
        refuse(!isState(state) || !isState(to) || event < -1 || event >= kinds, new IllegalArgumentException());
        refuse(rules.size() == 40, new UnsupportedOperationException());
        forget();
        rules.add(new int[] {state, event, to});
        sent.add(new ArrayList<>());
        return rules.size() - 1;
    }

    int sends(int rule, int message, int whom) {
        refuse(rule < 0 || rule >= rules.size() || message < 0 || message >= kinds, new IllegalArgumentException());
        refuse(whom != 0 && whom != 1 || whom == 0 && rules.get(rule)[1] == -1, new IllegalArgumentException());
        refuse(sent.get(rule).size() == 4, new UnsupportedOperationException());
        forget();
        sent.get(rule).add(new int[] {message, whom});
        return sent.get(rule).size();
    }

    int bad(int a, int b) {
        refuse(!isState(a) || !isState(b), new IllegalArgumentException());
        if (badPairs[a][b]) {
            return 0;
        }
        forget();
        badPairs[a][b] = true;
        badPairs[b][a] = true;
        return 1;
    }

    int run() {
        explore(Integer.MAX_VALUE);
        return ending != GOING ? ending : wholes.size();
    }

    int go(int n) {
        refuse(n < 1 || n > 1000, new IllegalArgumentException());
        explore(n);
        return wholes.size();
    }

    private void explore(int n) {
        if (wholes.isEmpty()) {
            List<Integer> first = new ArrayList<>(Collections.nCopies(nodes + 1, 0));
            take(first, -1, -1);
        }
        for (int i = 0; i < n && ending == GOING && gone < wholes.size(); i++) {
            int made = 0;
            List<int[]> all = stepsFrom(wholes.get(gone));
            for (int[] step : all) {
                makeStep(step);
                made++;
                if (ending != GOING) {
                    return;
                }
            }
            facts.get(gone)[3] = made;
            gone++;
        }
    }

    /** Each step: node, rule, code (-1 by itself). */
    private List<int[]> stepsFrom(List<Integer> whole) {
        List<int[]> all = new ArrayList<>();
        for (int node = 0; node < nodes; node++) {
            for (int rule = 0; rule < rules.size(); rule++) {
                for (int code = -1; code < 96; code++) {
                    if (goes(whole, node, rule, code)) {
                        all.add(new int[] {node, rule, code});
                    }
                }
            }
        }
        return all;
    }

    private boolean goes(List<Integer> whole, int node, int rule, int code) {
        int[] r = rules.get(rule);
        if (whole.get(node) != r[0]) {
            return false;
        }
        if (code == -1 ? r[1] != -1 : r[1] != code / 16 || code % 4 != node) {
            return false;
        }
        if (code != -1 && !whole.subList(nodes + 1, whole.size()).contains(code)) {
            return false;
        }
        return after(whole, node, rule, code).get(nodes) <= 7;
    }

    private List<Integer> after(List<Integer> whole, int node, int rule, int code) {
        List<Integer> codes = new ArrayList<>(whole.subList(nodes + 1, whole.size()));
        if (code != -1) {
            codes.remove(Integer.valueOf(code));
        }
        for (int[] s : sent.get(rule)) {
            if (s[1] == 0) {
                codes.add(16 * s[0] + 4 * node + code / 4 % 4);
            } else {
                for (int to = 0; to < nodes; to++) {
                    if (to != node) {
                        codes.add(16 * s[0] + 4 * node + to);
                    }
                }
            }
        }
        List<Integer> next = new ArrayList<>(whole.subList(0, nodes));
        next.set(node, rules.get(rule)[2]);
        return joined(next, codes);
    }

    private static List<Integer> joined(List<Integer> states, List<Integer> codes) {
        Collections.sort(codes);
        List<Integer> whole = new ArrayList<>(states);
        whole.add(codes.size());
        whole.addAll(codes);
        return whole;
    }

    private List<Integer> renumbered(List<Integer> whole, int[] numbering) {
        Integer[] next = new Integer[nodes];
        for (int i = 0; i < nodes; i++) {
            next[numbering[i]] = whole.get(i);
        }
        List<Integer> codes = new ArrayList<>();
        for (int code : whole.subList(nodes + 1, whole.size())) {
            codes.add(code / 16 * 16 + 4 * numbering[code / 4 % 4] + numbering[code % 4]);
        }
        return joined(Arrays.asList(next), codes);
    }

    private static int compare(List<Integer> a, List<Integer> b) {
        for (int i = 0; i < a.size(); i++) {
            if (!a.get(i).equals(b.get(i))) {
                return a.get(i) < b.get(i) ? -1 : 1;
            }
        }
        return 0;
    }

    private List<Integer> formOf(List<Integer> whole) {
        List<Integer> least = whole;
        for (int[] numbering : numberings) {
            List<Integer> other = renumbered(whole, numbering);
            if (compare(other, least) < 0) {
                least = other;
            }
        }
        return least;
    }

    private void makeStep(int[] step) {
        steps++;
        List<Integer> form = formOf(after(wholes.get(gone), step[0], step[1], step[2]));
        if (numbers.containsKey(form)) {
            stepsBack++;
        } else if (wholes.size() == room) {
            ending = -1;
        } else {
            take(form, gone, step[1]);
        }
    }

    private void take(List<Integer> form, int origin, int rule) {
        int level = origin == -1 ? 0 : facts.get(origin)[0] + 1;
        numbers.put(form, wholes.size());
        wholes.add(form);
        facts.add(new int[] {level, origin, rule, -1});
        for (int i = 0; i < nodes; i++) {
            for (int j = 0; j < nodes; j++) {
                if (i != j && badPairs[form.get(i)][form.get(j)]) {
                    ending = -2;
                }
            }
        }
    }

    private boolean isWhole(int k) {
        return 0 <= k && k < wholes.size();
    }

    int node(int k, int node) {
        refuse(!isWhole(k) || node < 0 || node >= nodes, new IndexOutOfBoundsException());
        return wholes.get(k).get(node);
    }

    int code(int k, int i) {
        refuse(!isWhole(k) || i < 0 || i >= wholes.get(k).get(nodes), new IndexOutOfBoundsException());
        return wholes.get(k).get(nodes + 1 + i);
    }

    int whole(int k, int what) {
        refuse(!isWhole(k) || what < 0 || what > 5, new IndexOutOfBoundsException());
        if (what == 0) {
            return wholes.get(k).get(nodes);
        }
        return what == 5 ? unchangedBy(wholes.get(k)) : facts.get(k)[what - 1];
    }

    private int unchangedBy(List<Integer> whole) {
        int ways = 0;
        for (int[] numbering : numberings) {
            if (renumbered(whole, numbering).equals(whole)) {
                ways++;
            }
        }
        return ways;
    }

    private int differentOf(List<Integer> whole) {
        List<List<Integer>> different = new ArrayList<>();
        for (int[] numbering : numberings) {
            List<Integer> other = renumbered(whole, numbering);
            if (!different.contains(other)) {
                different.add(other);
            }
        }
        return different.size();
    }

    private List<Integer> wayBack() {
        List<Integer> way = new ArrayList<>();
        for (int k = ending == -2 ? wholes.size() - 1 : -1; k != -1; k = facts.get(k)[1]) {
            way.add(0, k);
        }
        return way;
    }

    int way() {
        return wayBack().size() - 1;
    }

    int wayAt(int i) {
        List<Integer> way = wayBack();
        refuse(i < 0 || i >= way.size(), new IndexOutOfBoundsException());
        return way.get(i);
    }

    int count(int what) {
        int greatest = -1;
        int stuck = 0;
        int sum = 0;
        for (int k = 0; k < wholes.size(); k++) {
            greatest = Math.max(greatest, facts.get(k)[0]);
            stuck += facts.get(k)[3] == 0 ? 1 : 0;
            sum += what == 10 ? differentOf(wholes.get(k)) : 0;
        }
        int[] all = {nodes, states, kinds, rules.size(), wholes.size(), gone, greatest, steps, stepsBack, stuck, sum};
        return what < 0 || what >= all.length ? -1 : all[what];
    }
}
