import java.util.Arrays;

/**
 * Nodes that change their states by rules and send one another messages in any order:
 * all states of the whole are gone through, level by level, those that differ only by
 * which node is which counted as one.
 */
public final class StateExplore {
    /** Nothing there; by itself. */
    public static final int NONE = -1;

    private static final int MOST_NODES = 4;
    private static final int MOST_WHOLES = 8192;
    private static final int MOST_STATES = 8;
    private static final int MOST_KINDS = 6;
    private static final int MOST_RULES = 40;
    private static final int MOST_SENDS = 4;
    private static final int MOST_CODES = 7;
    private static final int MOST_AT_ONCE = 1000;

    private static final int TO_SENDER = 0;
    private static final int TO_ALL = 1;

    private static final int GOING_ON = 0;
    private static final int NO_ROOM = -1;
    private static final int FOUND_BAD = -2;

    /*
     * A form is one long, so that comparing two longs compares two forms: from the top the
     * states of nodes 0 to 3, then seven places for the codes, each one more than its code,
     * 0 where there is none. How many codes there are needs no place of its own: it is alike
     * for all forms of which one is chosen, and the places tell it.
     */
    private static final int STATE_BITS = 3;
    private static final int STATE_MASK = 7;
    private static final int CODE_BITS = 7;
    private static final int CODE_MASK = 127;
    private static final int CODES_BITS = MOST_CODES * CODE_BITS;

    /*
     * Every way to number four nodes anew: the hexadecimal digit i, from the right, is the
     * new number of node i. The first 1, 2, 6, 24 are those of 1, 2, 3, 4 nodes.
     */
    private static final int[] NUMBERINGS = {
        0x3210, 0x3201, 0x3120, 0x3102, 0x3021, 0x3012,
        0x2310, 0x2301, 0x2130, 0x2103, 0x2031, 0x2013,
        0x1320, 0x1302, 0x1230, 0x1203, 0x1032, 0x1023,
        0x0321, 0x0312, 0x0231, 0x0213, 0x0132, 0x0123
    };

    private final Model model;
    private final Store store;
    private final Explorer explorer;

    public StateExplore(int nodes, int room) {
        model = new Model(1 + Math.floorMod(nodes - 1, MOST_NODES));
        store = new Store(1 + Math.floorMod(room - 1, MOST_WHOLES));
        explorer = new Explorer(model, store);
    }

    public int state() throws UnsupportedOperationException {
        if (model.states >= MOST_STATES) {
            throw new UnsupportedOperationException("there are eight states");
        }
        explorer.forget();
        return model.states++;
    }

    public int message() throws UnsupportedOperationException {
        if (model.kinds >= MOST_KINDS) {
            throw new UnsupportedOperationException("there are six kinds");
        }
        explorer.forget();
        return model.kinds++;
    }

    public int rule(int state, int event, int to) throws IllegalArgumentException, UnsupportedOperationException {
        if (!model.hasState(state) || !model.hasState(to)) {
            throw new IllegalArgumentException("no such state");
        }
        if (event != NONE && !model.hasKind(event)) {
            throw new IllegalArgumentException("no such kind");
        }
        if (model.rules >= MOST_RULES) {
            throw new UnsupportedOperationException("there are forty rules");
        }
        explorer.forget();
        return model.addRule(state, event, to);
    }

    public int sends(int rule, int message, int whom) throws IllegalArgumentException, UnsupportedOperationException {
        if (rule < 0 || rule >= model.rules) {
            throw new IllegalArgumentException("no such rule");
        }
        if (!model.hasKind(message)) {
            throw new IllegalArgumentException("no such kind");
        }
        if (whom != TO_SENDER && whom != TO_ALL) {
            throw new IllegalArgumentException("no such whom");
        }
        if (whom == TO_SENDER && model.events[rule] == NONE) {
            throw new IllegalArgumentException("a rule that goes by itself has no sender");
        }
        if (model.sends[rule] >= MOST_SENDS) {
            throw new UnsupportedOperationException("the rule sends four");
        }
        explorer.forget();
        return model.addSend(rule, message, whom);
    }

    public boolean bad(int a, int b) throws IllegalArgumentException {
        if (!model.hasState(a) || !model.hasState(b)) {
            throw new IllegalArgumentException("no such state");
        }
        if (model.isBadPair(a, b)) {
            return false;
        }
        explorer.forget();
        model.addBadPair(a, b);
        return true;
    }

    public int run() {
        explorer.goOn(MOST_WHOLES);
        return explorer.ending == GOING_ON ? store.size : explorer.ending;
    }

    public int go(int n) throws IllegalArgumentException {
        if (n < 1 || n > MOST_AT_ONCE) {
            throw new IllegalArgumentException("not 1 to 1000");
        }
        explorer.goOn(n);
        return store.size;
    }

    public int node(int k, int node) throws IndexOutOfBoundsException {
        if (!store.has(k) || node < 0 || node >= model.nodes) {
            throw new IndexOutOfBoundsException("no such whole or node");
        }
        return stateIn(store.forms[k], node);
    }

    public int code(int k, int i) throws IndexOutOfBoundsException {
        if (!store.has(k) || i < 0 || i >= codesIn(store.forms[k])) {
            throw new IndexOutOfBoundsException("no such whole or code");
        }
        return codeIn(store.forms[k], i);
    }

    public int whole(int k, int what) throws IndexOutOfBoundsException {
        if (!store.has(k)) {
            throw new IndexOutOfBoundsException("no such whole");
        }
        switch (what) {
            case 0: return codesIn(store.forms[k]);
            case 1: return store.levels[k];
            case 2: return store.origins[k];
            case 3: return store.rules[k];
            case 4: return store.steps[k];
            case 5: return store.symmetries[k];
            default: throw new IndexOutOfBoundsException("no such what");
        }
    }

    public int way() {
        // Exploring ends with the bad whole, so it is the last one and has the greatest level.
        return explorer.ending == FOUND_BAD ? store.greatestLevel() : NONE;
    }

    public int wayAt(int i) throws IndexOutOfBoundsException {
        if (explorer.ending != FOUND_BAD || i < 0 || i > store.greatestLevel()) {
            throw new IndexOutOfBoundsException("no such whole on the way");
        }
        return store.beforeLast(i);
    }

    public int count(int what) {
        switch (what) {
            case 0: return model.nodes;
            case 1: return model.states;
            case 2: return model.kinds;
            case 3: return model.rules;
            case 4: return store.size;
            case 5: return explorer.gone;
            case 6: return store.greatestLevel();
            case 7: return explorer.steps;
            case 8: return explorer.stepsBack;
            case 9: return explorer.stuck;
            case 10: return explorer.stoodFor;
            default: return NONE;
        }
    }

    private static int stateIn(long form, int node) {
        return (int) (form >>> (CODES_BITS + STATE_BITS * (MOST_NODES - 1 - node))) & STATE_MASK;
    }

    /** The i-th code of a form; NONE where there is none. */
    private static int codeIn(long form, int i) {
        return ((int) (form >>> (CODE_BITS * (MOST_CODES - 1 - i))) & CODE_MASK) - 1;
    }

    private static int codesIn(long form) {
        int codes = 0;
        while (codes < MOST_CODES && codeIn(form, codes) != NONE) {
            codes++;
        }
        return codes;
    }

    private static int numberingsOf(int nodes) {
        int numberings = 1;
        for (int i = 2; i <= nodes; i++) {
            numberings *= i;
        }
        return Math.min(numberings, NUMBERINGS.length);
    }

    /** What was told: states, kinds, rules with what they send, and bad pairs. */
    private static final class Model {
        final int nodes;
        int states = 1;
        int kinds = 0;
        int rules = 0;
        final int[] starts = new int[MOST_RULES];
        final int[] events = new int[MOST_RULES];
        final int[] targets = new int[MOST_RULES];
        final int[] sends = new int[MOST_RULES];
        final int[] sentKinds = new int[MOST_RULES * MOST_SENDS];
        final int[] sentWhom = new int[MOST_RULES * MOST_SENDS];
        /** By how many a step by a rule makes more what is on its way. */
        final int[] growths = new int[MOST_RULES];
        /** Bit 8 * a + b, and 8 * b + a as well. */
        long badPairs = 0;

        Model(int nodes) {
            this.nodes = nodes;
        }

        boolean hasState(int state) {
            return state >= 0 && state < states;
        }

        boolean hasKind(int kind) {
            return kind >= 0 && kind < kinds;
        }

        int addRule(int state, int event, int to) {
            starts[rules] = state;
            events[rules] = event;
            targets[rules] = to;
            growths[rules] = event == NONE ? 0 : -1;
            return rules++;
        }

        int addSend(int rule, int kind, int whom) {
            int place = rule * MOST_SENDS + sends[rule];
            sentKinds[place] = kind;
            sentWhom[place] = whom;
            growths[rule] += whom == TO_SENDER ? 1 : nodes - 1;
            return ++sends[rule];
        }

        boolean isBadPair(int a, int b) {
            return (badPairs & 1L << (MOST_STATES * a + b)) != 0;
        }

        void addBadPair(int a, int b) {
            badPairs |= 1L << (MOST_STATES * a + b) | 1L << (MOST_STATES * b + a);
        }

        boolean isBadWhole(Draft draft) {
            for (int i = 0; i < nodes; i++) {
                for (int j = i + 1; j < nodes; j++) {
                    if (isBadPair(draft.states[i], draft.states[j])) {
                        return true;
                    }
                }
            }
            return false;
        }
    }

    /** A whole that can be changed, and the form that stands for it. */
    private static final class Draft {
        final int nodes;
        final int numberings;
        final int[] states = new int[MOST_NODES];
        final int[] codes = new int[MOST_CODES];
        int size = 0;
        long form = 0;
        /** In how many ways the nodes can be numbered so that the form comes of it. */
        int symmetries = 0;
        private final int[] sorted = new int[MOST_CODES];

        Draft(int nodes) {
            this.nodes = nodes;
            this.numberings = numberingsOf(nodes);
        }

        void load(long wholeForm) {
            for (int i = 0; i < nodes; i++) {
                states[i] = stateIn(wholeForm, i);
            }
            size = codesIn(wholeForm);
            for (int i = 0; i < size; i++) {
                codes[i] = codeIn(wholeForm, i);
            }
        }

        void copyOf(Draft other) {
            System.arraycopy(other.states, 0, states, 0, MOST_NODES);
            System.arraycopy(other.codes, 0, codes, 0, MOST_CODES);
            size = other.size;
        }

        void removeCode(int at) {
            if (at < 0 || at >= size) {
                return;
            }
            size--;
            for (int i = at; i < size; i++) {
                codes[i] = codes[i + 1];
            }
        }

        void addCode(int kind, int from, int to) {
            if (size < MOST_CODES) {
                codes[size++] = 16 * kind + 4 * from + to;
            }
        }

        /** Finds the least form of all numberings, and how many of them give it. */
        void settle() {
            form = Long.MAX_VALUE;
            symmetries = 0;
            for (int i = 0; i < numberings; i++) {
                long statesPart = statesBy(NUMBERINGS[i]);
                if (statesPart > form >>> CODES_BITS) {
                    continue;
                }
                long candidate = statesPart << CODES_BITS | codesBy(NUMBERINGS[i]);
                if (candidate < form) {
                    form = candidate;
                    symmetries = 0;
                }
                if (candidate == form) {
                    symmetries++;
                }
            }
        }

        private long statesBy(int numbering) {
            int packed = 0;
            for (int i = 0; i < nodes; i++) {
                int number = (numbering >> 4 * i) & 3;
                packed |= states[i] << STATE_BITS * (MOST_NODES - 1 - number);
            }
            return packed;
        }

        private long codesBy(int numbering) {
            for (int i = 0; i < size; i++) {
                int code = codes[i];
                int from = (numbering >> 4 * (code >> 2 & 3)) & 3;
                int to = (numbering >> 4 * (code & 3)) & 3;
                int renumbered = (code & ~15) + 4 * from + to;
                int at = i;
                for (; at > 0 && sorted[at - 1] > renumbered; at--) {
                    sorted[at] = sorted[at - 1];
                }
                sorted[at] = renumbered;
            }
            long packed = 0;
            for (int i = 0; i < size; i++) {
                packed = packed << CODE_BITS | sorted[i] + 1;
            }
            return packed << CODE_BITS * (MOST_CODES - size);
        }
    }

    /** The wholes that were found, in their order, and where each form stands. */
    private static final class Store {
        private static final long SPREAD = 0x9E3779B97F4A7C15L;

        int size = 0;
        final long[] forms;
        final int[] levels;
        final int[] origins;
        final int[] rules;
        final int[] steps;
        final int[] symmetries;
        /** One more than the number of a whole; 0 where there is none. */
        private final int[] slots;

        Store(int room) {
            forms = new long[room];
            levels = new int[room];
            origins = new int[room];
            rules = new int[room];
            steps = new int[room];
            symmetries = new int[room];
            slots = new int[slotsFor(room)];
        }

        /** A power of two and at least twice the room, so that a search soon meets an empty slot. */
        private static int slotsFor(int room) {
            int wanted = 2;
            while (wanted < 2 * room) {
                wanted *= 2;
            }
            return wanted;
        }

        boolean has(int k) {
            return k >= 0 && k < size;
        }

        boolean isFull() {
            return size >= forms.length;
        }

        void clear() {
            if (size > 0) {
                Arrays.fill(slots, 0);
                size = 0;
            }
        }

        /** The slot of a form, or the empty one where it belongs. */
        int slotOf(long form) {
            int last = slots.length - 1;
            int slot = (int) ((form * SPREAD) >>> 40) & last;
            for (int i = 0; i < last && slots[slot] != 0 && forms[slots[slot] - 1] != form; i++) {
                slot = (slot + 1) & last;
            }
            return slot;
        }

        boolean isTaken(int slot) {
            return slots[slot] != 0;
        }

        /** Puts a settled draft into its empty slot; the caller has looked for room. */
        void add(int slot, Draft draft, int origin, int rule) {
            forms[size] = draft.form;
            levels[size] = has(origin) ? levels[origin] + 1 : 0;
            origins[size] = origin;
            rules[size] = rule;
            steps[size] = NONE;
            symmetries[size] = draft.symmetries;
            slots[slot] = ++size;
        }

        /** Wholes come level by level, so the last one has the greatest. */
        int greatestLevel() {
            return size > 0 ? levels[size - 1] : NONE;
        }

        /** The whole of a level on the way to the last one; NONE without. */
        int beforeLast(int level) {
            int k = size - 1;
            for (int i = 0; i < size && has(k) && levels[k] > level; i++) {
                k = origins[k];
            }
            return k;
        }
    }

    /** Goes through the wholes in their order and keeps the counts. */
    private static final class Explorer {
        final Model model;
        final Store store;
        int ending = GOING_ON;
        int gone = 0;
        int steps = 0;
        int stepsBack = 0;
        int stuck = 0;
        int stoodFor = 0;
        private int stepsHere = 0;
        /** The whole that is gone through, and what comes of a step from it. */
        private final Draft source;
        private final Draft result;

        Explorer(Model model, Store store) {
            this.model = model;
            this.store = store;
            source = new Draft(model.nodes);
            result = new Draft(model.nodes);
        }

        void forget() {
            store.clear();
            ending = GOING_ON;
            gone = 0;
            steps = 0;
            stepsBack = 0;
            stuck = 0;
            stoodFor = 0;
        }

        void goOn(int wholes) {
            if (store.size == 0) {
                begin();
            }
            for (int i = 0; i < wholes && ending == GOING_ON && gone < store.size; i++) {
                goThrough(gone);
            }
        }

        private void begin() {
            result.load(0);
            result.settle();
            take(store.slotOf(result.form), NONE, NONE);
        }

        private void goThrough(int k) {
            source.load(store.forms[k]);
            stepsHere = 0;
            for (int node = 0; node < model.nodes; node++) {
                for (int rule = 0; rule < model.rules; rule++) {
                    tryRule(node, rule);
                    if (ending != GOING_ON) {
                        return;
                    }
                }
            }
            store.steps[k] = stepsHere;
            gone++;
            if (stepsHere == 0) {
                stuck++;
            }
        }

        private void tryRule(int node, int rule) {
            if (source.states[node] != model.starts[rule]
                    || source.size + model.growths[rule] > MOST_CODES) {
                return;
            }
            int event = model.events[rule];
            if (event == NONE) {
                makeStep(node, rule, NONE);
                return;
            }
            for (int i = 0; i < source.size && ending == GOING_ON; i++) {
                int code = source.codes[i];
                boolean seen = i > 0 && source.codes[i - 1] == code;
                if (!seen && code >> 4 == event && (code & 3) == node) {
                    makeStep(node, rule, i);
                }
            }
        }

        /** Makes a step that can be made; received is the place of the code, NONE by itself. */
        private void makeStep(int node, int rule, int received) {
            steps++;
            stepsHere++;
            result.copyOf(source);
            result.states[node] = model.targets[rule];
            result.removeCode(received);
            send(node, rule, received == NONE ? NONE : source.codes[received] >> 2 & 3);
            result.settle();
            int slot = store.slotOf(result.form);
            if (store.isTaken(slot)) {
                stepsBack++;
            } else if (store.isFull()) {
                ending = NO_ROOM;
            } else {
                take(slot, gone, rule);
            }
        }

        private void send(int node, int rule, int sender) {
            int first = rule * MOST_SENDS;
            for (int i = first; i < first + model.sends[rule]; i++) {
                for (int to = 0; to < model.nodes; to++) {
                    if (model.sentWhom[i] == TO_SENDER ? to == sender : to != node) {
                        result.addCode(model.sentKinds[i], node, to);
                    }
                }
            }
        }

        private void take(int slot, int origin, int rule) {
            store.add(slot, result, origin, rule);
            if (result.symmetries > 0) {
                stoodFor += result.numberings / result.symmetries;
            }
            if (model.isBadWhole(result)) {
                ending = FOUND_BAD;
            }
        }
    }
}
