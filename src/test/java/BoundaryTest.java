import java.util.Arrays;

/** Each sentence of the promises 1 to 8, telling and exploring, that names a boundary case, by a test of its own. */
public final class BoundaryTest {
    private static final int NONE = StateExplore.NONE;
    private static final Class<IllegalArgumentException> ILLEGAL = IllegalArgumentException.class;
    private static final Class<UnsupportedOperationException> UNSUPPORTED = UnsupportedOperationException.class;
    private static final Class<IndexOutOfBoundsException> OUTSIDE = IndexOutOfBoundsException.class;
    private static final int LOWEST = Integer.MIN_VALUE;
    private static final int HIGHEST = Integer.MAX_VALUE;

    public static void main(String[] args) {
        newObject();
        statesAndMessages();
        rulesAndSends();
        Check.sentence("Promise 6", "A bad pair of states: whether it was not.", BoundaryTest::badOnce);
        Check.sentence("Promise 6", "IllegalArgumentException, when there are no such states.", BoundaryTest::badStates);
        run();
        go();
        Check.end("BoundaryTest");
    }

    private static void newObject() {
        String where = "Promise 1";
        Check.sentence(where, "N is 1 + (nodes - 1) modulo 4 (rests not below 0)", BoundaryTest::nodesModulo);
        Check.sentence(where, "there is room for 1 + (room - 1) modulo 8192 wholes (rests not below 0)",
                BoundaryTest::roomModulo);
        Check.sentence(where, "State 0 is there; no messages, no rules", BoundaryTest::newHasStateZeroAlone);
        Check.sentence(where, "nothing is explored", BoundaryTest::newIsUnexplored);
    }

    private static void statesAndMessages() {
        Check.sentence("Promise 2", "A state more: its number.", BoundaryTest::stateNumbers);
        Check.sentence("Promise 2", "UnsupportedOperationException, when there are eight.", BoundaryTest::stateTooMany);
        Check.sentence("Promise 2", "What was explored is gone by this", BoundaryTest::goneByState);
        Check.sentence("Promise 2", "and by all that adds something", BoundaryTest::goneByAllThatAdds);
        Check.sentence("Promise 3", "A kind of messages more: its number.", BoundaryTest::messageNumbers);
        Check.sentence("Promise 3", "UnsupportedOperationException, when there are six.", BoundaryTest::messageTooMany);
    }

    private static void rulesAndSends() {
        Check.sentence("Promise 4", "A rule more: its number.", BoundaryTest::ruleNumbers);
        Check.sentence("Promise 4", "IllegalArgumentException, when there are no such states", BoundaryTest::ruleStates);
        Check.sentence("Promise 4", "or no such kind", BoundaryTest::ruleKinds);
        Check.sentence("Promise 4", "UnsupportedOperationException, when there are forty.", BoundaryTest::ruleTooMany);
        Check.sentence("Promise 5", "A rule sends one more (whom 0 or 1): how many it has.", BoundaryTest::sendsHowMany);
        Check.sentence("Promise 5", "IllegalArgumentException, when there is no such rule", BoundaryTest::sendsRules);
        Check.sentence("Promise 5", "no such kind", BoundaryTest::sendsKinds);
        Check.sentence("Promise 5", "no such whom", BoundaryTest::sendsWhom);
        Check.sentence("Promise 5", "or whom is 0 and it goes by itself", BoundaryTest::sendsWithoutSender);
        Check.sentence("Promise 5", "UnsupportedOperationException, when it has four.", BoundaryTest::sendsTooMany);
    }

    private static void run() {
        String where = "Promise 7";
        Check.sentence(where, "Explores on", BoundaryTest::runOn);
        Check.sentence(where, "until a bad whole is found (answer -2)", BoundaryTest::runToBad);
        Check.sentence(where, "until a whole would be one too many (-1", BoundaryTest::runToFull);
        Check.sentence(where, "it is not taken, nor are steps behind it", BoundaryTest::runNotTaken);
        Check.sentence(where, "in both cases the whole from which the step was made is not gone through",
                BoundaryTest::runNotGoneThrough);
        Check.sentence(where, "or all are gone through (how many there are)", BoundaryTest::runAll);
        Check.sentence(where, "When that was so already: at once again.", BoundaryTest::runAgain);
    }

    private static void go() {
        String where = "Promise 8";
        Check.sentence(where, "Goes through so many wholes more (1 .. 1000)", BoundaryTest::goSoMany);
        Check.sentence(where, "as far as run() would go", BoundaryTest::goAsFarAsRun);
        Check.sentence(where, "how many wholes there are", BoundaryTest::goHowMany);
        Check.sentence(where, "IllegalArgumentException, when n is none of these.", BoundaryTest::goRefused);
    }

    /** What changes an object or is refused, with numbers of its own. */
    private interface Call {
        int of(StateExplore x, int[] numbers);
    }

    /** Each row of numbers is refused, and none of these calls changes what can be asked. */
    private static void refused(Class<? extends RuntimeException> due, StateExplore x, Call call, int[]... rows) {
        String before = Models.answers(x);
        for (int[] row : rows) {
            Check.throwing(Arrays.toString(row), due, () -> call.of(x, row));
        }
        Check.same("what can be asked behind the refused calls", Models.answers(x), before);
    }

    private static final Call STATE = (x, n) -> x.state();
    private static final Call MESSAGE = (x, n) -> x.message();
    private static final Call RULE = (x, n) -> x.rule(n[0], n[1], n[2]);
    private static final Call SENDS = (x, n) -> x.sends(n[0], n[1], n[2]);
    private static final Call BAD = (x, n) -> x.bad(n[0], n[1]) ? 1 : 0;
    private static final Call GO = (x, n) -> x.go(n[0]);

    private static void nodesModulo() {
        int[] nodes = {1, 2, 3, 4, 5, 6, 7, 8, 9, 0, -1, -2, -3, -4, -5, LOWEST, LOWEST + 1, LOWEST + 2, HIGHEST, HIGHEST - 1};
        int[] due = {1, 2, 3, 4, 1, 2, 3, 4, 1, 4, 3, 2, 1, 4, 3, 4, 1, 2, 3, 2};
        int[] numberings = {1, 2, 6, 24};
        for (int i = 0; i < nodes.length; i++) {
            StateExplore x = new StateExplore(nodes[i], 1);
            int n = due[i];
            Check.same("nodes " + nodes[i], x.count(0), n);
            x.run();
            Check.same("the last node of " + nodes[i], x.node(0, n - 1), 0);
            Check.throwing("a node behind the last of " + nodes[i], OUTSIDE, () -> x.node(0, n));
            Check.same("numberings of " + nodes[i], x.whole(0, 5), numberings[n - 1]);
        }
    }

    private static void roomModulo() {
        int[] small = {1, 2, 3, 7, 8193, 8194, 16385, -8191, -8190, -16383, LOWEST + 1, LOWEST + 2};
        int[] dueSmall = {1, 2, 3, 7, 1, 2, 1, 1, 2, 1, 1, 2};
        for (int i = 0; i < small.length; i++) {
            StateExplore x = Models.chain(1, small[i], 8);
            Check.same("run() in room " + small[i], x.run(), -1);
            Check.same("wholes in room " + small[i], x.count(4), dueSmall[i]);
        }
        int[] large = {0, 8192, 16384, -8192, LOWEST, 8191, -1, HIGHEST, HIGHEST - 1};
        int[] dueLarge = {8192, 8192, 8192, 8192, 8192, 8191, 8191, 8191, 8190};
        for (int i = 0; i < large.length; i++) {
            StateExplore x = Models.talkers(2, large[i], 6, 1);
            int last = dueLarge[i];
            Check.same("run() in room " + large[i], x.run(), -1);
            Check.same("wholes in room " + large[i], x.count(4), last);
            Check.same("the last whole in room " + large[i], x.whole(last - 1, 4), NONE);
            Check.throwing("a whole behind it", OUTSIDE, () -> x.whole(last, 4));
        }
    }

    private static void newHasStateZeroAlone() {
        StateExplore x = new StateExplore(2, 10);
        Check.same("states", x.count(1), 1);
        Check.same("kinds", x.count(2), 0);
        Check.same("rules", x.count(3), 0);
        refused(ILLEGAL, x, RULE, Check.row(1, NONE, 0), Check.row(0, NONE, 1), Check.row(0, 0, 0));
        refused(ILLEGAL, x, SENDS, Check.row(0, 0, 1), Check.row(0, 0, 0));
        refused(ILLEGAL, x, BAD, Check.row(0, 1), Check.row(1, 0));
        Check.same("state 0 can be bad", x.bad(0, 0), true);
        Check.same("state 0 can have a rule", x.rule(0, NONE, 0), 0);
    }

    private static void newIsUnexplored() {
        StateExplore x = new StateExplore(3, 10);
        StateExplore other = Models.chain(3, 10, 2);
        other.bad(1, 1);
        other.run();
        Check.counts("new", x, 0, 0, NONE, 0, 0, 0, 0);
        Check.same("way()", x.way(), NONE);
        Check.throwing("node(0, 0)", OUTSIDE, () -> x.node(0, 0));
        Check.throwing("code(0, 0)", OUTSIDE, () -> x.code(0, 0));
        Check.throwing("whole(0, 0)", OUTSIDE, () -> x.whole(0, 0));
        Check.throwing("wayAt(0)", OUTSIDE, () -> x.wayAt(0));
    }

    private static void stateNumbers() {
        StateExplore x = new StateExplore(1, 10);
        for (int i = 1; i <= 7; i++) {
            Check.same("state() " + i, x.state(), i);
            Check.same("states", x.count(1), i + 1);
            Check.same("a rule to it", x.rule(i - 1, NONE, i), i - 1);
        }
        Check.same("up to the eighth", x.run(), 8);
        Check.same("the eighth", x.node(7, 0), 7);
    }

    private static void stateTooMany() {
        StateExplore x = Models.chain(1, 10, 8);
        x.go(2);
        refused(UNSUPPORTED, x, STATE, Check.row(), Check.row(), Check.row());
        Check.same("still eight", x.count(1), 8);
        refused(ILLEGAL, x, RULE, Check.row(8, NONE, 0), Check.row(0, NONE, 8));
        Check.same("goes on behind it", x.run(), 8);
    }

    private static void goneByState() {
        StateExplore x = Models.askers(2, 100);
        x.bad(0, 1);
        Check.same("found", x.run(), -2);
        x.state();
        checkGone("by a state", x);
        Check.same("found anew", x.run(), -2);
        Check.same("found anew, way()", x.way(), 1);
        StateExplore alone = new StateExplore(2, 10);
        Check.same("whole 0 alone", alone.run(), 1);
        alone.state();
        checkGone("whole 0 alone, then a state", alone);
    }

    private static void checkGone(String name, StateExplore x) {
        Check.counts(name, x, 0, 0, NONE, 0, 0, 0, 0);
        Check.same(name + ": way()", x.way(), NONE);
        Check.throwing(name + ": wayAt(0)", OUTSIDE, () -> x.wayAt(0));
        Check.throwing(name + ": node(0, 0)", OUTSIDE, () -> x.node(0, 0));
        Check.throwing(name + ": code(0, 0)", OUTSIDE, () -> x.code(0, 0));
        Check.throwing(name + ": whole(0, 1)", OUTSIDE, () -> x.whole(0, 1));
    }

    private static void goneByAllThatAdds() {
        Call[] adding = {MESSAGE, RULE, SENDS, BAD};
        int[][] numbers = {{}, {0, NONE, 0}, {1, 1, 0}, {2, 2}};
        String[] names = {"a kind", "a rule", "one sent", "a bad pair"};
        for (int i = 0; i < adding.length; i++) {
            StateExplore all = Models.askers(2, 100);
            Check.same("all are gone through", all.run() > 0, true);
            adding[i].of(all, numbers[i]);
            checkGone("all, then " + names[i], all);
            StateExplore bad = Models.askers(2, 100);
            bad.bad(0, 1);
            Check.same("a bad one is found", bad.run(), -2);
            adding[i].of(bad, numbers[i]);
            checkGone("a bad one, then " + names[i], bad);
            Check.same("found anew behind " + names[i], bad.run(), -2);
            Check.same("found anew behind " + names[i] + ", way()", bad.way(), 1);
            StateExplore full = Models.askers(2, 2);
            Check.same("there is no room", full.run(), -1);
            adding[i].of(full, numbers[i]);
            checkGone("no room, then " + names[i], full);
            Check.same("no room anew behind " + names[i], full.run(), -1);
            Check.same("no room anew behind " + names[i] + ", wholes", full.count(4), 2);
        }
        StateExplore other = Models.askers(2, 2);
        Check.same("no room", other.run(), -1);
        other.bad(0, 1);
        Check.same("no room, then found", other.run(), -2);
        StateExplore nothing = Models.askers(2, 100);
        nothing.bad(0, 1);
        nothing.run();
        String before = Models.answers(nothing);
        Check.same("the same bad pair", nothing.bad(0, 1), false);
        Check.same("the same bad pair the other way round", nothing.bad(1, 0), false);
        Check.same("what adds nothing leaves all", Models.answers(nothing), before);
    }

    private static void messageNumbers() {
        StateExplore x = new StateExplore(2, 10);
        for (int i = 0; i <= 5; i++) {
            Check.same("message() " + i, x.message(), i);
            Check.same("kinds", x.count(2), i + 1);
            Check.same("a rule by it", x.rule(0, i, 0), i);
        }
    }

    private static void messageTooMany() {
        StateExplore x = Models.talkers(2, 100, 6, 1);
        x.go(1);
        refused(UNSUPPORTED, x, MESSAGE, Check.row(), Check.row(), Check.row());
        Check.same("still six", x.count(2), 6);
        refused(ILLEGAL, x, RULE, Check.row(0, 6, 0));
        refused(ILLEGAL, x, SENDS, Check.row(0, 6, 1));
    }

    /** The fortieth is the only one that a node in 0 has, but for two that are alike. */
    private static void ruleNumbers() {
        StateExplore x = Models.with(new StateExplore(1, 10), 2, 0);
        for (int i = 0; i < 39; i++) {
            Check.same("rule " + i, x.rule(1, NONE, 1), i);
            Check.same("rules", x.count(3), i + 1);
        }
        Check.same("the fortieth", x.rule(0, NONE, 1), 39);
        x.run();
        Check.same("whole 1 came by it", x.whole(1, 3), 39);
        Check.same("and has a step by each of the others, alike as they are", x.whole(1, 4), 39);
    }

    private static void ruleStates() {
        StateExplore x = Models.with(Models.chain(2, 10, 3), 3, 1);
        x.run();
        refused(ILLEGAL, x, RULE, Check.row(3, NONE, 0), Check.row(-1, NONE, 0), Check.row(8, 0, 0),
                Check.row(LOWEST, NONE, 0), Check.row(HIGHEST, NONE, 0), Check.row(0, NONE, 3),
                Check.row(0, NONE, -1), Check.row(0, 0, 8), Check.row(0, NONE, LOWEST), Check.row(0, NONE, HIGHEST));
        Check.same("the greatest states there are", x.rule(2, NONE, 2), 2);
        Check.same("the least", x.rule(0, 0, 0), 3);
    }

    private static void ruleKinds() {
        StateExplore x = new StateExplore(2, 10);
        x.run();
        refused(ILLEGAL, x, RULE, Check.row(0, 0, 0));
        x.message();
        x.message();
        x.run();
        refused(ILLEGAL, x, RULE, Check.row(0, 2, 0), Check.row(0, -2, 0), Check.row(0, 6, 0),
                Check.row(0, LOWEST, 0), Check.row(0, HIGHEST, 0));
        Check.same("the greatest kind there is", x.rule(0, 1, 0), 0);
        Check.same("the least", x.rule(0, 0, 0), 1);
        Check.same("by itself", x.rule(0, NONE, 0), 2);
    }

    private static void ruleTooMany() {
        StateExplore x = Models.with(Models.chain(2, 10, 2), 2, 1);
        for (int i = 1; i < 40; i++) {
            Check.same("rule " + i, x.rule(1, NONE, 1), i);
        }
        x.go(1);
        refused(UNSUPPORTED, x, RULE, Check.row(0, NONE, 1), Check.row(0, 0, 0), Check.row(1, NONE, 0));
        Check.same("still forty", x.count(3), 40);
        refused(ILLEGAL, x, SENDS, Check.row(40, 0, 1));
        Check.same("the fortieth can send", x.sends(39, 0, 1), 1);
    }

    private static void sendsHowMany() {
        StateExplore x = Models.with(new StateExplore(2, 10), 1, 1);
        x.rule(0, NONE, 0);
        x.rule(0, 0, 0);
        for (int i = 1; i <= 4; i++) {
            Check.same("rule 0 has", x.sends(0, 0, 1), i);
            Check.same("rule 1, apart from it, has", x.sends(1, 0, i % 2), i);
        }
        x.go(1);
        Check.numbers("each of the same four", x, 1, Check.row(0, 0), 1, 1, 1, 1);
    }

    /** Two states, two kinds, rule 0 by itself and rule 1 by kind 0; whole 0 is gone through. */
    private static StateExplore twoRules() {
        StateExplore x = Models.with(Models.chain(2, 10, 2), 2, 2);
        x.rule(1, 0, 0);
        x.go(1);
        return x;
    }

    private static void sendsRules() {
        StateExplore x = twoRules();
        refused(ILLEGAL, x, SENDS, Check.row(2, 0, 1), Check.row(-1, 0, 1), Check.row(39, 0, 1), Check.row(40, 0, 0),
                Check.row(LOWEST, 0, 1), Check.row(HIGHEST, 0, 1));
        Check.same("the last rule there is", x.sends(1, 0, 1), 1);
        Check.same("the first", x.sends(0, 0, 1), 1);
    }

    private static void sendsKinds() {
        StateExplore x = twoRules();
        refused(ILLEGAL, x, SENDS, Check.row(0, 2, 1), Check.row(0, -1, 1), Check.row(1, 2, 0), Check.row(1, 6, 1),
                Check.row(0, LOWEST, 1), Check.row(0, HIGHEST, 1));
        Check.same("the greatest kind there is", x.sends(0, 1, 1), 1);
        Check.same("the least", x.sends(0, 0, 1), 2);
    }

    private static void sendsWhom() {
        StateExplore x = twoRules();
        refused(ILLEGAL, x, SENDS, Check.row(1, 0, 2), Check.row(1, 0, -1), Check.row(0, 0, 2), Check.row(0, 0, -1),
                Check.row(1, 0, LOWEST), Check.row(1, 0, HIGHEST));
        Check.same("whom 0", x.sends(1, 0, 0), 1);
        Check.same("whom 1", x.sends(1, 0, 1), 2);
    }

    private static void sendsWithoutSender() {
        StateExplore x = twoRules();
        refused(ILLEGAL, x, SENDS, Check.row(0, 0, 0), Check.row(0, 1, 0));
        Check.same("to all, by itself", x.sends(0, 0, 1), 1);
        Check.same("to the sender, by a message", x.sends(1, 0, 0), 1);
    }

    private static void sendsTooMany() {
        StateExplore x = twoRules();
        for (int i = 1; i <= 4; i++) {
            Check.same("rule 0 has", x.sends(0, 0, 1), i);
        }
        x.go(1);
        refused(UNSUPPORTED, x, SENDS, Check.row(0, 0, 1), Check.row(0, 1, 1));
        Check.numbers("four are sent, no more", x, 1, Check.row(0, 1), 4, 4, 4, 4);
        Check.same("rule 1 is not full by that", x.sends(1, 1, 0), 1);
        for (int i = 2; i <= 4; i++) {
            Check.same("rule 1 has", x.sends(1, 1, 0), i);
        }
        refused(UNSUPPORTED, x, SENDS, Check.row(1, 1, 0), Check.row(1, 1, 1));
    }

    private static void badOnce() {
        StateExplore x = Models.chain(4, 1, 8);
        for (int a = 0; a < 8; a++) {
            for (int b = a; b < 8; b++) {
                Check.same("bad(" + b + ", " + a + ")", x.bad(b, a), true);
                Check.same("bad(" + b + ", " + a + ") again", x.bad(b, a), false);
            }
        }
        for (int a = 0; a < 8; a++) {
            for (int b = a; b < 8; b++) {
                Check.same("bad(" + a + ", " + b + ") the other way round", x.bad(a, b), false);
            }
        }
        StateExplore later = Models.chain(2, 10, 2);
        later.bad(1, 1);
        later.run();
        later.state();
        Check.same("a bad pair stays, what was explored is gone", later.bad(1, 1), false);
        Check.same("and is found anew", later.run(), -2);
    }

    private static void badStates() {
        StateExplore x = Models.chain(2, 10, 3);
        Check.same("none is bad", x.run(), 6);
        refused(ILLEGAL, x, BAD, Check.row(3, 0), Check.row(0, 3), Check.row(-1, 0), Check.row(0, -1), Check.row(3, 3),
                Check.row(8, 0), Check.row(0, 8), Check.row(0, 64), Check.row(-1, -1),
                Check.row(LOWEST, 0), Check.row(0, LOWEST), Check.row(HIGHEST, 0), Check.row(0, HIGHEST));
        x.state();
        Check.same("none is bad by a refused call", x.run(), 6);
        Check.same("nor the state that is there now", x.bad(3, 0), true);
        Check.same("nor twice it", x.bad(3, 3), true);
    }

    private static void runOn() {
        StateExplore x = Models.chain(3, 100, 3);
        x.go(4);
        String before = x.node(3, 0) + " " + x.node(3, 1) + " " + x.node(3, 2) + " " + x.whole(3, 2);
        Check.same("on from four gone through", x.run(), 10);
        Check.same("what was there stays", x.node(3, 0) + " " + x.node(3, 1) + " " + x.node(3, 2) + " " + x.whole(3, 2),
                before);
        // Each of the 10 rows of three states: one step for each node that is not in 2.
        Check.counts("no step is made twice", x, 10, 10, 6, 20, 11, 1, 27);
    }

    private static void runToBad() {
        StateExplore first = Models.chain(2, 10, 2);
        first.bad(0, 0);
        Check.same("whole 0", first.run(), -2);
        StateExplore second = Models.chain(2, 10, 2);
        second.bad(0, 1);
        Check.same("by the first step", second.run(), -2);
        Check.counts("by the first step", second, 2, 0, 1, 1, 0, 0, 3);
        StateExplore last = Models.chain(2, 10, 2);
        last.bad(1, 1);
        Check.same("the last one", last.run(), -2);
        Check.counts("the last one", last, 3, 1, 2, 3, 1, 0, 4);
        StateExplore room = Models.chain(2, 3, 2);
        room.bad(1, 1);
        Check.same("in the last place that there is", room.run(), -2);
        Check.same("in the last place, way()", room.way(), 2);
    }

    private static void runToFull() {
        int[] due = {-1, -1, -1, 4, 4};
        for (int room = 1; room <= 5; room++) {
            StateExplore x = Models.chain(3, room, 2);
            Check.same("four wholes in room for " + room, x.run(), due[room - 1]);
            Check.same("wholes in room for " + room, x.count(4), Math.min(room, 4));
        }
        StateExplore back = new StateExplore(4, 1);
        back.rule(0, NONE, 0);
        Check.same("a step to a whole that is there needs no room", back.run(), 1);
    }

    private static void runNotTaken() {
        StateExplore x = Models.chain(3, 2, 2);
        x.rule(0, NONE, 0);
        Check.same("no room for 011", x.run(), -1);
        // From 000 each node has two steps; from 001 the first one, by rule 0, has no room.
        Check.counts("nothing behind it", x, 2, 1, 1, 7, 5, 0, 4);
        Check.throwing("it is not there", OUTSIDE, () -> x.whole(2, 0));
        StateExplore bad = Models.chain(3, 2, 2);
        bad.bad(1, 1);
        Check.same("a bad one that is not taken is not found", bad.run(), -1);
        Check.same("and has no way", bad.way(), NONE);
    }

    private static void runNotGoneThrough() {
        StateExplore full = Models.chain(3, 2, 2);
        full.run();
        Check.same("no room: 001", full.whole(1, 4), NONE);
        Check.same("no room: gone through", full.count(5), 1);
        StateExplore one = Models.chain(3, 1, 2);
        one.run();
        Check.same("no room: 000", one.whole(0, 4), NONE);
        Check.same("no room: none gone through", one.count(5), 0);
        StateExplore bad = Models.chain(3, 10, 2);
        bad.bad(1, 1);
        bad.run();
        Check.same("bad: 001", bad.whole(1, 4), NONE);
        Check.same("bad: 000", bad.whole(0, 4), 3);
        Check.same("bad: gone through", bad.count(5), 1);
    }

    private static void runAll() {
        Check.same("nothing to go by", new StateExplore(4, 1).run(), 1);
        Check.same("one node", Models.chain(1, 2, 2).run(), 2);
        Check.same("just room enough", Models.chain(4, 330, 8).run(), 330);
        StateExplore x = Models.chain(4, 0, 8);
        Check.same("room to spare", x.run(), 330);
        Check.same("all are gone through", x.count(5), 330);
        Check.same("the last one too", x.whole(329, 4), 0);
    }

    private static void runAgain() {
        StateExplore all = Models.chain(3, 10, 2);
        StateExplore full = Models.chain(3, 2, 2);
        StateExplore bad = Models.chain(3, 10, 2);
        bad.bad(1, 1);
        StateExplore[] each = {all, full, bad};
        int[] due = {4, -1, -2};
        for (int i = 0; i < each.length; i++) {
            StateExplore x = each[i];
            Check.same("first", x.run(), due[i]);
            String before = Models.answers(x);
            Check.same("again", x.run(), due[i]);
            Check.same("by go() between", x.go(1000), x.count(4));
            Check.same("and again", x.run(), due[i]);
            Check.same("all is as it was", Models.answers(x), before);
        }
    }

    private static void goSoMany() {
        StateExplore x = Models.talkers(2, 0, 6, 1);
        x.go(1);
        Check.same("one", x.count(5), 1);
        x.go(2);
        Check.same("two more", x.count(5), 3);
        x.go(1000);
        Check.same("a thousand more", x.count(5), 1003);
        Check.same("the last of them", x.whole(1002, 4) == NONE, false);
        Check.same("the one behind them", x.whole(1003, 4), NONE);
        x.go(999);
        Check.same("one less than a thousand more", x.count(5), 2002);
    }

    private static void goAsFarAsRun() {
        StateExplore all = Models.chain(3, 10, 2);
        Check.same("all", all.go(1000), 4);
        Check.same("all are gone through", all.count(5), 4);
        Check.same("and no more", all.go(1000), 4);
        StateExplore full = Models.chain(3, 2, 2);
        Check.same("no room", full.go(1000), 2);
        Check.same("no room: gone through", full.count(5), 1);
        Check.same("no room again", full.go(1), 2);
        Check.same("no room: steps", full.count(7), 4);
        StateExplore bad = Models.chain(3, 10, 2);
        bad.bad(1, 1);
        Check.same("bad", bad.go(1000), 3);
        Check.same("bad: gone through", bad.count(5), 1);
        Check.same("bad again", bad.go(1), 3);
        Check.same("bad: steps", bad.count(7), 4);
        Check.same("bad: the way is found", bad.way(), 2);
        StateExplore first = Models.chain(3, 10, 2);
        first.bad(0, 0);
        Check.same("whole 0 is bad", first.go(1), 1);
        Check.same("whole 0 is not gone through", first.count(5), 0);
    }

    /** Twice 500 is as far as once 1000, and go() answers what there is, not what was gone through. */
    private static void goHowMany() {
        StateExplore x = Models.chain(3, 10, 2);
        int[] due = {2, 3, 4, 4, 4};
        for (int i = 0; i < due.length; i++) {
            Check.same("go(1) " + i, x.go(1), due[i]);
            Check.same("gone through behind go(1) " + i, x.count(5), Math.min(i + 1, 4));
        }
        StateExplore once = Models.talkers(2, 0, 6, 1);
        StateExplore twice = Models.talkers(2, 0, 6, 1);
        twice.go(500);
        Check.same("500 and 500", twice.go(500), once.go(1000));
        Check.same("as count tells", once.go(1), once.count(4));
    }

    private static void goRefused() {
        StateExplore x = Models.chain(3, 10, 2);
        int[][] wrong = {{0}, {-1}, {1001}, {LOWEST}, {HIGHEST}, {-1000}};
        refused(ILLEGAL, x, GO, wrong);
        Check.same("whole 0 does not come by it", x.count(4), 0);
        x.go(1);
        refused(ILLEGAL, x, GO, wrong);
        Check.same("goes on behind it", x.go(1), 3);
        x.run();
        Check.throwing("when all are gone through", ILLEGAL, () -> x.go(0));
        Check.throwing("when all are gone through", ILLEGAL, () -> x.go(1001));
    }
}
