import java.util.Arrays;

/** Each sentence of the promises 9 to 14, asking, that names a boundary case, by a test of its own. */
public final class AskingTest {
    private static final int NONE = StateExplore.NONE;
    private static final Class<IndexOutOfBoundsException> OUTSIDE = IndexOutOfBoundsException.class;
    private static final int LOWEST = Integer.MIN_VALUE;
    private static final int HIGHEST = Integer.MAX_VALUE;

    public static void main(String[] args) {
        Check.sentence("Promise 9", "The state of a node in whole k.", AskingTest::nodeStates);
        Check.sentence("Promise 9", "IndexOutOfBoundsException, when there are none.", AskingTest::nodeRefused);
        Check.sentence("Promise 10", "The i-th code on its way in whole k (the least first).", AskingTest::codes);
        Check.sentence("Promise 10", "IndexOutOfBoundsException, when there is none.", AskingTest::codeRefused);
        wholes();
        ways();
        counts();
        Check.end("AskingTest");
    }

    private static void wholes() {
        String where = "Promise 11";
        Check.sentence(where, "Of whole k how many are on their way (what 0)", AskingTest::wholeOnTheirWay);
        Check.sentence(where, "its level (1)", AskingTest::wholeLevel);
        Check.sentence(where, "the whole that it came from (2; NONE)", AskingTest::wholeOrigin);
        Check.sentence(where, "the rule (3; NONE)", AskingTest::wholeRule);
        Check.sentence(where, "how many steps can be made from it (4;", AskingTest::wholeSteps);
        Check.sentence(where, "NONE, when it was not gone through)", AskingTest::wholeNotGoneThrough);
        Check.sentence(where, "in how many ways nodes can be numbered so that it is as it is (5)",
                AskingTest::wholeNumberings);
        Check.sentence(where, "IndexOutOfBoundsException, when there is none", AskingTest::wholeNotThere);
        Check.sentence(where, "or for another what", AskingTest::wholeAnotherWhat);
    }

    private static void ways() {
        Check.sentence("Promise 12", "The length of the way to the bad whole that was found: how many steps",
                AskingTest::wayLengths);
        Check.sentence("Promise 12", "NONE without", AskingTest::noWay);
        Check.sentence("Promise 13", "The i-th whole on that way (from 0, whole 0).", AskingTest::wayWholes);
        Check.sentence("Promise 13", "IndexOutOfBoundsException, when there is none.", AskingTest::wayAtRefused);
    }

    private static void counts() {
        String where = "Promise 14";
        Check.sentence(where, "Nodes (0)", AskingTest::countNodes);
        Check.sentence(where, "states (1)", AskingTest::countStates);
        Check.sentence(where, "kinds (2)", AskingTest::countKinds);
        Check.sentence(where, "rules (3)", AskingTest::countRules);
        Check.sentence(where, "wholes (4), of these gone through (5)", AskingTest::countWholes);
        Check.sentence(where, "levels (6; the greatest, NONE without wholes)", AskingTest::countLevels);
        Check.sentence(where, "steps so far (7;", AskingTest::countSteps);
        Check.sentence(where, "the one to a bad whole and the one for which there is no room count, too)",
                AskingTest::countLastStep);
        Check.sentence(where, "of these to wholes that were there (8)", AskingTest::countStepsBack);
        Check.sentence(where, "wholes from which no step can be made (9)", AskingTest::countStuck);
        Check.sentence(where, "sums of all wholes that the forms stand for"
                + " (10: each with as many as there are of the same one)", AskingTest::countSums);
        Check.sentence(where, "NONE for another what.", AskingTest::countAnotherWhat);
    }

    private interface Question {
        int of(StateExplore x, int[] numbers);
    }

    /** Each row of numbers is refused, and none of these calls changes what can be asked. */
    private static void refused(StateExplore x, Question question, int[]... rows) {
        String before = Models.answers(x);
        for (int[] row : rows) {
            Check.throwing(Arrays.toString(row), OUTSIDE, () -> question.of(x, row));
        }
        Check.same("what can be asked behind the refused calls", Models.answers(x), before);
    }

    private static final Question NODE = (x, n) -> x.node(n[0], n[1]);
    private static final Question CODE = (x, n) -> x.code(n[0], n[1]);
    private static final Question WHOLE = (x, n) -> x.whole(n[0], n[1]);
    private static final Question WAY_AT = (x, n) -> x.wayAt(n[0]);

    private static void nodeStates() {
        StateExplore x = Models.chain(4, 0, 8);
        x.run();
        Check.numbers("the first whole", x, 0, Check.row(0, 0, 0, 0));
        Check.numbers("the second", x, 1, Check.row(0, 0, 0, 1));
        Check.numbers("the last but one", x, 328, Check.row(6, 7, 7, 7));
        Check.numbers("the last", x, 329, Check.row(7, 7, 7, 7));
        StateExplore full = Models.chain(3, 2, 2);
        full.run();
        Check.numbers("the last one for which there was room", full, 1, Check.row(0, 0, 1));
        StateExplore bad = Models.chain(3, 10, 2);
        bad.bad(1, 1);
        bad.run();
        Check.numbers("the bad one", bad, 2, Check.row(0, 1, 1));
    }

    private static void nodeRefused() {
        for (int n = 1; n <= 4; n++) {
            StateExplore x = Models.chain(n, 10, 2);
            refused(x, NODE, Check.row(0, 0), Check.row(-1, 0), Check.row(0, -1));
            x.run();
            refused(x, NODE, Check.row(n + 1, 0), Check.row(-1, 0), Check.row(0, n), Check.row(0, -1),
                    Check.row(n + 1, n), Check.row(HIGHEST, 0), Check.row(LOWEST, 0),
                    Check.row(0, HIGHEST), Check.row(0, LOWEST));
            x.state();
            refused(x, NODE, Check.row(0, 0));
        }
        StateExplore full = Models.chain(3, 2, 2);
        full.run();
        refused(full, NODE, Check.row(2, 0));
    }

    private static void codes() {
        StateExplore x = Models.talkers(2, 100, 1, 1);
        x.run();
        for (int i = 0; i < 7; i++) {
            Check.same("code " + i + " of seven", x.code(19, i), i < 4 ? 1 : 4);
        }
        Check.same("the only one", x.code(1, 0), 1);
        StateExplore falling = Models.with(Models.chain(2, 10, 2), 2, 6);
        for (int kind = 5; kind >= 2; kind--) {
            falling.sends(0, kind, 1);
        }
        falling.go(1);
        Check.numbers("told the greatest first", falling, 1, Check.row(0, 1), 36, 52, 68, 84);
    }

    private static void codeRefused() {
        StateExplore x = Models.talkers(2, 100, 1, 1);
        refused(x, CODE, Check.row(0, 0), Check.row(-1, 0));
        x.run();
        refused(x, CODE, Check.row(0, 0), Check.row(0, -1), Check.row(1, 1), Check.row(1, -1), Check.row(12, 6),
                Check.row(16, 7), Check.row(16, 8), Check.row(19, -1), Check.row(20, 0), Check.row(-1, 0),
                Check.row(HIGHEST, 0), Check.row(LOWEST, 0), Check.row(16, HIGHEST), Check.row(16, LOWEST));
        x.message();
        refused(x, CODE, Check.row(1, 0));
    }

    private static void wholeOnTheirWay() {
        StateExplore x = Models.talkers(2, 100, 1, 1);
        x.run();
        int[] due = {0, 1, 2, 2, 3, 3, 4, 4, 4, 5, 5, 5, 6, 6, 6, 6, 7, 7, 7, 7};
        for (int k = 0; k < due.length; k++) {
            Check.same("whole(" + k + ", 0)", x.whole(k, 0), due[k]);
        }
    }

    private static void wholeLevel() {
        StateExplore x = Models.chain(2, 10, 3);
        x.rule(2, NONE, 0);
        x.run();
        // 00; 01; 11, 02; 12 of 11; 22 of 12, for a step back to 0 makes no level.
        int[] due = {0, 1, 2, 2, 3, 4};
        Check.same("wholes", x.count(4), due.length);
        for (int k = 0; k < due.length; k++) {
            Check.same("whole(" + k + ", 1)", x.whole(k, 1), due[k]);
        }
    }

    private static void wholeOrigin() {
        StateExplore x = Models.chain(2, 10, 3);
        x.rule(2, NONE, 0);
        x.run();
        // Both 11 and 02 lead to 12; it came from the one that was gone through first.
        int[] due = {NONE, 0, 1, 1, 2, 4};
        for (int k = 0; k < due.length; k++) {
            Check.same("whole(" + k + ", 2)", x.whole(k, 2), due[k]);
        }
    }

    private static void wholeRule() {
        StateExplore x = Models.chain(2, 10, 3);
        x.rule(0, NONE, 1);
        x.run();
        // 00; 01; 11; 02; 12 of 11. Rule 2 is like rule 0, which comes before it.
        int[] due = {NONE, 0, 0, 1, 1, 1};
        for (int k = 0; k < due.length; k++) {
            Check.same("whole(" + k + ", 3)", x.whole(k, 3), due[k]);
        }
    }

    private static void wholeSteps() {
        StateExplore x = Models.chain(4, 10, 2);
        x.run();
        for (int k = 0; k <= 4; k++) {
            Check.same("whole(" + k + ", 4)", x.whole(k, 4), 4 - k);
        }
        StateExplore most = new StateExplore(4, 1);
        for (int i = 0; i < 40; i++) {
            most.rule(0, NONE, 0);
        }
        most.run();
        Check.same("forty rules of four nodes", most.whole(0, 4), 160);
        StateExplore none = new StateExplore(4, 1);
        none.run();
        Check.same("no rules", none.whole(0, 4), 0);
    }

    private static void wholeNotGoneThrough() {
        StateExplore x = Models.chain(4, 10, 2);
        x.go(1);
        Check.same("whole 0 was", x.whole(0, 4), 4);
        Check.same("whole 1 not yet", x.whole(1, 4), NONE);
        x.go(4);
        Check.same("the last one was, it has none", x.whole(4, 4), 0);
        StateExplore full = Models.chain(4, 1, 2);
        full.run();
        Check.same("no room", full.whole(0, 4), NONE);
        StateExplore bad = Models.chain(4, 10, 2);
        bad.bad(0, 0);
        bad.run();
        Check.same("whole 0 is bad", bad.whole(0, 4), NONE);
        StateExplore later = Models.chain(4, 10, 2);
        later.bad(1, 1);
        later.run();
        Check.same("the one before the bad one", later.whole(1, 4), NONE);
        Check.same("the bad one", later.whole(2, 4), NONE);
    }

    private static void wholeNumberings() {
        int[] all = {1, 2, 6, 24};
        for (int n = 1; n <= 4; n++) {
            StateExplore x = new StateExplore(n, 1);
            x.run();
            Check.same("all alike, " + n, x.whole(0, 5), all[n - 1]);
        }
        StateExplore states = Models.chain(4, 100, 4);
        states.run();
        int[] due = new int[25];
        for (int k = 0; k < 35; k++) {
            due[states.whole(k, 5)]++;
        }
        // Four states in four nodes: 4 of one sort, 12 of three and one, 6 of two and two, 12 and 1.
        Check.same("24, 6, 4, 2, 1", Arrays.toString(new int[] {due[24], due[6], due[4], due[2], due[1]}),
                "[4, 12, 6, 12, 1]");
        StateExplore messages = Models.talkers(2, 100, 1, 1);
        messages.go(2);
        Check.same("from one only", messages.whole(2, 5), 1);
        Check.same("one from each", messages.whole(3, 5), 2);
        StateExplore four = Models.talkers(4, 100, 1, 1);
        four.go(2);
        Check.same("one of four has sent", four.whole(1, 5), 6);
        Check.same("two of four have sent", four.whole(3, 5), 4);
    }

    private static void wholeNotThere() {
        StateExplore x = Models.chain(3, 10, 2);
        refused(x, WHOLE, Check.row(0, 0), Check.row(0, 5), Check.row(-1, 0));
        x.run();
        refused(x, WHOLE, Check.row(4, 0), Check.row(4, 1), Check.row(4, 2), Check.row(4, 3), Check.row(4, 4),
                Check.row(4, 5), Check.row(-1, 0), Check.row(-1, 1), Check.row(-1, 2), Check.row(-1, 3),
                Check.row(-1, 4), Check.row(-1, 5));
        Check.same("the last one is there", x.whole(3, 1), 3);
        StateExplore full = Models.chain(3, 2, 2);
        full.run();
        refused(full, WHOLE, Check.row(2, 0), Check.row(HIGHEST, 1), Check.row(LOWEST, 2));
        full.state();
        refused(full, WHOLE, Check.row(0, 0));
    }

    private static void wholeAnotherWhat() {
        StateExplore x = Models.chain(3, 10, 2);
        x.run();
        refused(x, WHOLE, Check.row(0, -1), Check.row(0, 6), Check.row(3, -1), Check.row(3, 6),
                Check.row(0, HIGHEST), Check.row(0, LOWEST), Check.row(4, 6), Check.row(-1, -1));
    }

    private static void wayLengths() {
        int[] due = {0, 2, 4, 6, 8, 10, 12, 14};
        for (int state = 0; state < 8; state++) {
            StateExplore x = Models.chain(2, 100, 8);
            x.bad(state, state);
            x.run();
            Check.same("to twice " + state, x.way(), due[state]);
        }
        StateExplore shortest = Models.chain(2, 100, 8);
        shortest.rule(0, NONE, 7);
        shortest.bad(7, 7);
        shortest.run();
        Check.same("the shortest way", shortest.way(), 2);
        StateExplore byGo = Models.chain(2, 100, 8);
        byGo.bad(0, 1);
        byGo.go(1);
        Check.same("found by go()", byGo.way(), 1);
    }

    private static void noWay() {
        StateExplore x = Models.chain(2, 100, 3);
        x.bad(2, 2);
        Check.same("not looked for", x.way(), NONE);
        x.go(1);
        Check.same("not yet found", x.way(), NONE);
        x.run();
        Check.same("found", x.way(), 4);
        x.message();
        Check.same("gone", x.way(), NONE);
        StateExplore all = Models.chain(2, 100, 3);
        all.run();
        Check.same("none is bad", all.way(), NONE);
        StateExplore full = Models.chain(2, 3, 3);
        full.bad(2, 2);
        full.run();
        Check.same("no room", full.way(), NONE);
    }

    private static void wayWholes() {
        StateExplore x = Models.chain(2, 100, 3);
        x.bad(2, 2);
        x.run();
        Check.same("the first", x.wayAt(0), 0);
        Check.same("the last is the bad one", x.wayAt(x.way()), x.count(4) - 1);
        for (int i = 1; i <= x.way(); i++) {
            Check.same("the one before wayAt(" + i + ")", x.whole(x.wayAt(i), 2), x.wayAt(i - 1));
            Check.same("the level of wayAt(" + i + ")", x.whole(x.wayAt(i), 1), i);
        }
        StateExplore first = Models.chain(2, 100, 3);
        first.bad(0, 0);
        first.run();
        Check.same("whole 0 is bad", first.wayAt(0), 0);
        // 000, 001, 011, 002: the bad one and 011 both come of 001.
        StateExplore aside = Models.chain(3, 100, 3);
        aside.bad(0, 2);
        aside.run();
        int[] due = {0, 1, 3};
        for (int i = 0; i < due.length; i++) {
            Check.same("wayAt(" + i + "), one stands aside", aside.wayAt(i), due[i]);
        }
    }

    private static void wayAtRefused() {
        StateExplore x = Models.chain(2, 100, 3);
        refused(x, WAY_AT, Check.row(0), Check.row(-1));
        x.run();
        refused(x, WAY_AT, Check.row(0), Check.row(-1), Check.row(1));
        x.bad(2, 2);
        refused(x, WAY_AT, Check.row(0));
        StateExplore found = Models.chain(2, 100, 3);
        found.bad(2, 2);
        found.run();
        refused(found, WAY_AT, Check.row(-1), Check.row(5), Check.row(6), Check.row(HIGHEST), Check.row(LOWEST));
        StateExplore first = Models.chain(2, 100, 3);
        first.bad(0, 0);
        first.run();
        refused(first, WAY_AT, Check.row(1), Check.row(-1));
        StateExplore full = Models.chain(2, 3, 3);
        full.run();
        refused(full, WAY_AT, Check.row(0), Check.row(-1));
    }

    private static void countNodes() {
        for (int n = 1; n <= 4; n++) {
            StateExplore x = Models.chain(n, 10, 2);
            Check.same("before", x.count(0), n);
            x.run();
            Check.same("behind run()", x.count(0), n);
        }
    }

    private static void countStates() {
        StateExplore x = new StateExplore(2, 10);
        for (int i = 1; i <= 8; i++) {
            Check.same("states", x.count(1), i);
            Check.answer(x::state);
        }
        Check.same("eight, and one was refused", x.count(1), 8);
    }

    private static void countKinds() {
        StateExplore x = new StateExplore(2, 10);
        for (int i = 0; i <= 6; i++) {
            Check.same("kinds", x.count(2), i);
            Check.answer(x::message);
        }
        Check.same("six, and one was refused", x.count(2), 6);
    }

    private static void countRules() {
        StateExplore x = new StateExplore(2, 10);
        for (int i = 0; i <= 40; i++) {
            Check.same("rules", x.count(3), i);
            Check.answer(() -> x.rule(0, NONE, 0));
        }
        Check.same("forty, and one was refused", x.count(3), 40);
    }

    private static void countWholes() {
        StateExplore x = Models.chain(4, 10, 2);
        int[][] due = {{0, 0}, {2, 1}, {3, 2}, {4, 3}, {5, 4}, {5, 5}, {5, 5}};
        for (int i = 0; i < due.length; i++) {
            Check.same("wholes behind " + i, x.count(4), due[i][0]);
            Check.same("of these gone through behind " + i, x.count(5), due[i][1]);
            x.go(1);
        }
        StateExplore one = new StateExplore(4, 1);
        one.run();
        Check.counts("whole 0 alone", one, 1, 1);
        StateExplore full = Models.chain(4, 1, 2);
        full.run();
        Check.counts("no room behind whole 0", full, 1, 0);
    }

    private static void countLevels() {
        StateExplore x = Models.chain(2, 10, 2);
        Check.same("without wholes", x.count(6), NONE);
        Check.throwing("go(0)", IllegalArgumentException.class, () -> x.go(0));
        Check.same("still without", x.count(6), NONE);
        x.go(1);
        Check.same("whole 1", x.count(6), 1);
        x.run();
        Check.same("all", x.count(6), 2);
        x.message();
        Check.same("gone", x.count(6), NONE);
        StateExplore alone = new StateExplore(2, 10);
        alone.run();
        Check.same("whole 0 alone", alone.count(6), 0);
        StateExplore longest = Models.chain(4, 0, 8);
        longest.run();
        Check.same("four nodes up to state 7", longest.count(6), 28);
    }

    private static void countSteps() {
        StateExplore x = Models.chain(4, 10, 2);
        int[] due = {0, 4, 7, 9, 10, 10, 10};
        for (int i = 0; i < due.length; i++) {
            Check.same("steps behind " + i, x.count(7), due[i]);
            x.go(1);
        }
        StateExplore none = Models.talkers(3, 10, 1, 4);
        none.run();
        Check.same("a step that can not be made is none", none.count(7), 0);
    }

    private static void countLastStep() {
        StateExplore bad = Models.chain(4, 10, 2);
        bad.bad(0, 1);
        bad.run();
        Check.same("the one to the bad whole", bad.count(7), 1);
        bad.run();
        Check.same("once", bad.count(7), 1);
        StateExplore full = Models.chain(4, 1, 2);
        full.run();
        Check.same("the one for which there is no room", full.count(7), 1);
        full.go(9);
        Check.same("once", full.count(7), 1);
        StateExplore first = Models.chain(4, 10, 2);
        first.bad(0, 0);
        first.run();
        Check.same("no step leads to whole 0", first.count(7), 0);
    }

    private static void countStepsBack() {
        StateExplore x = Models.chain(4, 10, 2);
        int[] due = {0, 3, 5, 6, 6, 6};
        for (int i = 0; i < due.length; i++) {
            Check.same("steps back behind " + i, x.count(8), due[i]);
            x.go(1);
        }
        StateExplore itself = new StateExplore(3, 1);
        itself.rule(0, NONE, 0);
        itself.run();
        Check.same("from a whole to itself", itself.count(8), 3);
        StateExplore bad = Models.chain(4, 10, 2);
        bad.bad(0, 1);
        bad.run();
        Check.same("the one to the bad whole is none", bad.count(8), 0);
        StateExplore full = Models.chain(4, 1, 2);
        full.run();
        Check.same("the one for which there is no room is none", full.count(8), 0);
    }

    private static void countStuck() {
        StateExplore x = Models.chain(2, 10, 2);
        Check.same("new", x.count(9), 0);
        x.go(1);
        Check.same("whole 0 has steps", x.count(9), 0);
        x.run();
        Check.same("11 has none", x.count(9), 1);
        StateExplore alone = new StateExplore(2, 10);
        alone.run();
        Check.same("whole 0 has none", alone.count(9), 1);
        StateExplore seven = Models.talkers(2, 100, 1, 1);
        seven.run();
        Check.same("all with seven on their way", seven.count(9), 4);
        StateExplore itself = new StateExplore(2, 10);
        itself.rule(0, NONE, 0);
        itself.run();
        Check.same("a step to itself is one", itself.count(9), 0);
    }

    private static void countSums() {
        Check.same("without wholes", new StateExplore(2, 10).count(10), 0);
        int[] powers = {8, 64, 512, 4096};
        for (int n = 1; n <= 4; n++) {
            StateExplore x = Models.chain(n, 0, 8);
            x.run();
            Check.same("eight states in " + n + " nodes", x.count(10), powers[n - 1]);
            x.message();
            Check.same("gone", x.count(10), 0);
        }
        StateExplore messages = Models.talkers(2, 100, 1, 1);
        messages.run();
        Check.same("a and b sent, up to seven", messages.count(10), 36);
        StateExplore full = Models.chain(4, 2, 2);
        full.run();
        Check.same("what is not taken is none", full.count(10), 5);
        StateExplore bad = Models.chain(4, 10, 2);
        bad.bad(0, 1);
        bad.run();
        Check.same("a bad one is one", bad.count(10), 5);
    }

    private static void countAnotherWhat() {
        StateExplore x = Models.chain(2, 10, 2);
        int[] wrong = {-1, 11, 12, -2, 16, LOWEST, HIGHEST};
        for (int what : wrong) {
            Check.same("count(" + what + ") of a new one", x.count(what), NONE);
        }
        x.run();
        for (int what : wrong) {
            Check.same("count(" + what + ") behind run()", x.count(what), NONE);
        }
        Check.same("the last what there is", x.count(10), 4);
    }
}
