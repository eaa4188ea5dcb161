/** Promise by promise: ordinary inputs, the edges that the document names, and wrong inputs. */
public final class PromiseTest {
    private static final int NONE = StateExplore.NONE;
    private static final Class<IllegalArgumentException> ILLEGAL = IllegalArgumentException.class;
    private static final Class<UnsupportedOperationException> UNSUPPORTED = UnsupportedOperationException.class;
    private static final Class<IndexOutOfBoundsException> OUTSIDE = IndexOutOfBoundsException.class;
    private static final int LOWEST = Integer.MIN_VALUE;
    private static final int HIGHEST = Integer.MAX_VALUE;

    public static void main(String[] args) {
        newObject();
        state();
        whatAddsForgets();
        message();
        rule();
        sends();
        bad();
        badPairsInWholes();
        run();
        runWithoutRoom();
        runStepsInTheirOrder();
        runEndsBetweenCodes();
        runSevenOnTheirWay();
        runLargestRoom();
        go();
        node();
        code();
        whole();
        way();
        wayAt();
        count();
        countSums();
        Check.end("PromiseTest");
    }

    private static void newObject() {
        int[] nodes = {1, 2, 3, 4, 5, 8, 9, 0, -1, -2, -3, -4, LOWEST, LOWEST + 1, HIGHEST};
        int[] due = {1, 2, 3, 4, 1, 4, 1, 4, 3, 2, 1, 4, 4, 1, 3};
        for (int i = 0; i < nodes.length; i++) {
            Check.same("1: nodes " + nodes[i], new StateExplore(nodes[i], 1).count(0), due[i]);
        }
        int[] rooms = {1, 2, 7, 8193, 8194, -8191, -8190, -8189, LOWEST + 1, LOWEST + 2};
        int[] taken = {1, 2, 7, 1, 2, 1, 2, 3, 1, 2};
        for (int i = 0; i < rooms.length; i++) {
            StateExplore x = Models.chain(1, rooms[i], 8);
            Check.same("1: run in room " + rooms[i], x.run(), -1);
            Check.same("1: wholes in room " + rooms[i], x.count(4), taken[i]);
        }
        StateExplore x = new StateExplore(3, 10);
        Check.same("1: states", x.count(1), 1);
        Check.same("1: kinds", x.count(2), 0);
        Check.same("1: rules", x.count(3), 0);
        Check.counts("1: new", x, 0, 0, NONE, 0, 0, 0, 0);
        Check.same("1: way", x.way(), NONE);
        Check.throwing("1: whole(0, 0)", OUTSIDE, () -> x.whole(0, 0));
    }

    private static void state() {
        StateExplore x = new StateExplore(2, 10);
        for (int i = 1; i < 8; i++) {
            Check.same("2: state " + i, x.state(), i);
        }
        x.run();
        Check.throwing("2: a ninth", UNSUPPORTED, x::state);
        Check.same("2: still eight", x.count(1), 8);
        Check.same("2: what throws adds nothing", x.count(4), 1);
    }

    private static void whatAddsForgets() {
        StateExplore x = Models.askers(2, 100);
        x.bad(0, 1);
        Runnable[] adding = {x::state, x::message, () -> x.rule(0, NONE, 0), () -> x.sends(0, 0, 1), () -> x.bad(1, 1)};
        for (int i = 0; i < adding.length; i++) {
            Check.same("2: bad before adding " + i, x.run(), -2);
            Check.same("2: way before adding " + i, x.way(), 1);
            adding[i].run();
            Check.counts("2: after adding " + i, x, 0, 0, NONE, 0, 0, 0, 0);
            Check.same("2: way after adding " + i, x.way(), NONE);
            Check.throwing("2: wayAt(0) after adding " + i, OUTSIDE, () -> x.wayAt(0));
            Check.throwing("2: node(0, 0) after adding " + i, OUTSIDE, () -> x.node(0, 0));
        }
        Check.same("2: anew", x.go(1), 2);
        Check.same("2: bad once more", x.bad(1, 0), false);
        Check.throwing("2: no such rule", ILLEGAL, () -> x.rule(9, NONE, 0));
        Check.same("2: what adds nothing forgets nothing", x.count(4), 2);
    }

    private static void message() {
        StateExplore x = new StateExplore(2, 10);
        for (int i = 0; i < 6; i++) {
            Check.same("3: message " + i, x.message(), i);
        }
        x.run();
        Check.throwing("3: a seventh", UNSUPPORTED, x::message);
        Check.same("3: still six", x.count(2), 6);
        Check.same("3: what throws adds nothing", x.count(4), 1);
    }

    private static void rule() {
        StateExplore x = new StateExplore(2, 10);
        x.state();
        int[][] wrong = {{2, NONE, 0}, {-1, NONE, 0}, {0, NONE, 2}, {0, NONE, -1}, {0, 0, 0}, {0, -2, 0},
            {LOWEST, NONE, 0}, {0, HIGHEST, 0}, {0, NONE, HIGHEST}, {0, LOWEST, 0}};
        for (int[] w : wrong) {
            Check.throwing("4: rule " + java.util.Arrays.toString(w), ILLEGAL, () -> x.rule(w[0], w[1], w[2]));
        }
        x.message();
        for (int i = 0; i < 40; i++) {
            Check.same("4: rule " + i, x.rule(i % 2, i % 3 == 0 ? 0 : NONE, 1), i);
        }
        Check.throwing("4: a forty-first", UNSUPPORTED, () -> x.rule(0, 0, 1));
        Check.throwing("4: wrong before too many", ILLEGAL, () -> x.rule(0, 1, 1));
        Check.throwing("4: wrong state before too many", ILLEGAL, () -> x.rule(0, 0, 2));
        Check.same("4: still forty", x.count(3), 40);
    }

    private static void sends() {
        StateExplore x = new StateExplore(2, 10);
        x.message();
        x.rule(0, NONE, 0);
        x.rule(0, 0, 0);
        int[][] wrong = {{2, 0, 1}, {-1, 0, 1}, {1, 1, 1}, {1, -1, 1}, {1, 0, 2}, {1, 0, -1}, {0, 0, 0},
            {HIGHEST, 0, 1}, {LOWEST, 0, 1}, {1, HIGHEST, 1}, {1, LOWEST, 0}, {1, 0, HIGHEST}, {40, 0, 1}};
        for (int[] w : wrong) {
            Check.throwing("5: sends " + java.util.Arrays.toString(w), ILLEGAL, () -> x.sends(w[0], w[1], w[2]));
        }
        for (int i = 1; i <= 4; i++) {
            Check.same("5: by itself, " + i, x.sends(0, 0, 1), i);
            Check.same("5: by a message, " + i, x.sends(1, 0, i % 2), i);
        }
        Check.throwing("5: a fifth", UNSUPPORTED, () -> x.sends(0, 0, 1));
        Check.throwing("5: a fifth to the sender", UNSUPPORTED, () -> x.sends(1, 0, 0));
        Check.throwing("5: wrong whom before too many", ILLEGAL, () -> x.sends(0, 0, 0));
        Check.throwing("5: wrong kind before too many", ILLEGAL, () -> x.sends(1, 1, 0));
        sendsToWhom();
    }

    /** Four nodes: one asks all others by itself; one of them answers the asker, and tells all others. */
    private static void sendsToWhom() {
        StateExplore x = new StateExplore(4, 100);
        x.state();
        x.state();
        for (int i = 0; i < 3; i++) {
            x.message();
        }
        x.rule(0, NONE, 1);
        x.sends(0, 0, 1);
        x.rule(0, 0, 2);
        x.sends(1, 1, 0);
        x.sends(1, 2, 1);
        Check.same("5: first asked", x.go(1), 2);
        Check.numbers("5: one each to all others", x, 1, Check.row(0, 0, 0, 1), 12, 13, 14);
        x.go(1);
        Check.numbers("5: a second one asks", x, 2, Check.row(0, 0, 1, 1), 8, 9, 11, 12, 13, 14);
        Check.numbers("5: to the sender and to all others", x, 3, Check.row(0, 0, 1, 2), 8, 9, 30, 44, 45, 46);
    }

    private static void bad() {
        StateExplore x = Models.chain(2, 10, 3);
        Check.same("6: new", x.bad(1, 2), true);
        Check.same("6: again", x.bad(1, 2), false);
        Check.same("6: the other way round", x.bad(2, 1), false);
        Check.same("6: twice the same", x.bad(2, 2), true);
        Check.same("6: twice the same again", x.bad(2, 2), false);
        int[][] wrong = {{3, 0}, {0, 3}, {-1, 0}, {0, -1}, {8, 8}, {LOWEST, 0}, {0, HIGHEST}};
        for (int[] w : wrong) {
            Check.throwing("6: bad " + java.util.Arrays.toString(w), ILLEGAL, () -> x.bad(w[0], w[1]) ? 1 : 0);
        }
        StateExplore all = Models.chain(1, 10, 8);
        for (int a = 0; a < 8; a++) {
            for (int b = a; b < 8; b++) {
                Check.same("6: pair " + a + " " + b, all.bad(b, a), true);
            }
        }
        Check.same("6: a single node is no pair", all.run(), 8);
    }

    private static void badPairsInWholes() {
        StateExplore x = Models.chain(2, 100, 4);
        Check.same("6: without bad pairs", x.run(), 10);
        x.bad(3, 0);
        Check.same("6: 0 and 3", x.run(), -2);
        Check.numbers("6: 0 and 3", x, x.wayAt(x.way()), Check.row(0, 3));
        StateExplore same = Models.chain(3, 100, 3);
        same.bad(2, 2);
        Check.same("6: twice 2", same.run(), -2);
        Check.numbers("6: twice 2", same, same.wayAt(same.way()), Check.row(0, 2, 2));
        StateExplore once = Models.chain(2, 100, 2);
        once.state();
        once.rule(0, NONE, 2);
        once.bad(0, 2);
        Check.same("6: the second rule's", once.run(), -2);
        Check.numbers("6: the second rule's", once, 2, Check.row(0, 2));
    }

    private static void run() {
        StateExplore x = Models.chain(3, 100, 2);
        Check.same("7: all", x.run(), 4);
        for (int again = 0; again < 2; again++) {
            Check.same("7: all again", x.run(), 4);
            Check.counts("7: all", x, 4, 4, 3, 6, 3, 1, 8);
        }
        x.bad(1, 1);
        for (int again = 0; again < 2; again++) {
            Check.same("7: bad", x.run(), -2);
            // From 000 three steps to 001; from 001 the first one, to 011, is bad.
            Check.counts("7: bad", x, 3, 1, 2, 4, 2, 0, 7);
            Check.same("7: the one it came from is not gone through", x.whole(1, 4), NONE);
            Check.same("7: nor is the bad one", x.whole(2, 4), NONE);
        }
        StateExplore first = Models.chain(2, 100, 2);
        first.bad(0, 0);
        Check.same("7: whole 0 is bad", first.run(), -2);
        Check.counts("7: whole 0 is bad", first, 1, 0, 0, 0, 0, 0, 1);
        Check.same("7: whole 0 is bad, not gone through", first.whole(0, 4), NONE);
        StateExplore on = Models.chain(3, 100, 3);
        on.go(2);
        Check.same("7: on from go", on.run(), 10);
        Check.same("7: nothing to go by", new StateExplore(4, 1).run(), 1);
    }

    private static void runWithoutRoom() {
        StateExplore x = Models.chain(3, 2, 2);
        for (int again = 0; again < 2; again++) {
            Check.same("7: no room", x.run(), -1);
            Check.counts("7: no room", x, 2, 1, 1, 4, 2, 0, 4);
            Check.same("7: no room, not gone through", x.whole(1, 4), NONE);
        }
        x.bad(1, 1);
        Check.same("7: a bad one for which there is no room is not found", x.run(), -1);
        Check.same("7: and there is no way to it", x.way(), NONE);
        StateExplore whole = Models.chain(3, 4, 2);
        Check.same("7: just room enough", whole.run(), 4);
        StateExplore last = Models.chain(3, 3, 2);
        last.bad(1, 1);
        Check.same("7: the bad one in the last room", last.run(), -2);
    }

    private static void runStepsInTheirOrder() {
        StateExplore x = Models.chain(2, 100, 3);
        x.rule(0, NONE, 2);
        x.run();
        Check.numbers("7: by rule 0", x, 1, Check.row(0, 1));
        Check.numbers("7: by rule 2", x, 2, Check.row(0, 2));
        Check.numbers("7: node 0 first", x, 3, Check.row(1, 1));
        Check.numbers("7: node 0, rule 2", x, 4, Check.row(1, 2));
        Check.numbers("7: from whole 2", x, 5, Check.row(2, 2));
        Check.same("7: six in all", x.count(4), 6);
        // Codes: two alike are one step, and the least comes first.
        StateExplore y = new StateExplore(3, 100);
        y.state();
        y.state();
        y.message();
        y.message();
        y.rule(0, NONE, 1);
        y.sends(0, 0, 1);
        y.sends(0, 0, 1);
        y.rule(0, 0, 2);
        y.sends(1, 1, 0);
        y.go(2);
        Check.numbers("7: each twice", y, 1, Check.row(0, 0, 1), 8, 8, 9, 9);
        Check.same("7: twice the same code is one step", y.whole(1, 4), 2);
        Check.numbers("7: one of two alike is received", y, 2, Check.row(0, 1, 2), 4, 4, 6, 25);
    }

    /** The fifth whole is the last one; then the first of two codes for a node leads to one too many. */
    private static void runEndsBetweenCodes() {
        StateExplore x = new StateExplore(3, 5);
        x.state();
        x.state();
        x.message();
        x.rule(0, NONE, 1);
        x.sends(0, 0, 1);
        x.rule(0, 0, 2);
        Check.same("7: no room for what comes of the first code", x.run(), -1);
        Check.numbers("7: two codes for node 0", x, 2, Check.row(0, 1, 1), 4, 6, 8, 9);
        Check.numbers("7: received the least one", x, 3, Check.row(0, 1, 2), 4);
        Check.numbers("7: all asked", x, 4, Check.row(1, 1, 1), 1, 2, 4, 6, 8, 9);
        Check.counts("7: the second code is not tried", x, 5, 2, 3, 9, 4, 0, 14);
    }

    private static void runSevenOnTheirWay() {
        StateExplore x = new StateExplore(2, 1000);
        x.message();
        x.rule(0, NONE, 0);
        x.sends(0, 0, 1);
        Check.same("7: up to seven", x.run(), 20);
        Check.same("7: seven at the end", x.whole(19, 0), 7);
        Check.same("7: no step with eight", x.whole(19, 4), 0);
        x.rule(0, 0, 0);
        x.sends(1, 0, 0);
        x.run();
        Check.same("7: one received, one sent is seven again", x.whole(19, 4), 2);
        StateExplore y = new StateExplore(4, 1000);
        y.message();
        y.state();
        y.rule(0, NONE, 1);
        y.sends(0, 0, 1);
        Check.same("7: threes", y.run(), 3);
        Check.same("7: six, and nine can not be", y.whole(2, 0), 6);
        Check.counts("7: threes", y, 3, 3, 2, 7, 5, 1, 11);
    }

    private static void runLargestRoom() {
        StateExplore y = new StateExplore(2, 0);
        for (int i = 0; i < 6; i++) {
            y.message();
            y.rule(0, NONE, 0);
            y.sends(i, i, 1);
        }
        Check.same("7: no room beyond 8192", y.run(), -1);
        Check.same("7: 8192 wholes", y.count(4), 8192);
        Check.same("7: the last one is there", y.whole(8191, 4), NONE);
        Check.throwing("7: and none behind it", OUTSIDE, () -> y.whole(8192, 4));
    }

    private static void go() {
        StateExplore x = Models.chain(3, 100, 3);
        int[] wrong = {0, -1, 1001, LOWEST, HIGHEST};
        for (int n : wrong) {
            Check.throwing("8: go(" + n + ")", ILLEGAL, () -> x.go(n));
        }
        Check.same("8: nothing explored by that", x.count(4), 0);
        Check.same("8: whole 0", x.go(1), 2);
        Check.same("8: one gone through", x.count(5), 1);
        Check.same("8: two more", x.go(2), 6);
        Check.same("8: three gone through", x.count(5), 3);
        Check.same("8: all of them", x.go(1000), 10);
        Check.same("8: all gone through", x.count(5), 10);
        Check.same("8: no more", x.go(1), 10);
        Check.same("8: run has the same", x.run(), 10);
        StateExplore full = Models.chain(3, 3, 3);
        Check.same("8: no room", full.go(5), 3);
        Check.same("8: no room again", full.go(5), 3);
        Check.same("8: no room in run", full.run(), -1);
        StateExplore evil = Models.chain(3, 100, 3);
        evil.bad(2, 1);
        // 000, 001, 011, 002, then from 011 first 111 and then 012.
        Check.same("8: up to the bad one", evil.go(1000), 6);
        Check.same("8: and not on", evil.go(1), 6);
        Check.same("8: bad in run", evil.run(), -2);
        evil.bad(0, 0);
        Check.same("8: whole 0 is bad", evil.go(1), 1);
        Check.same("8: whole 0 is not gone through", evil.count(5), 0);
    }

    private static void node() {
        StateExplore x = Models.chain(3, 100, 3);
        Check.throwing("9: before exploring", OUTSIDE, () -> x.node(0, 0));
        x.run();
        Check.numbers("9: whole 0", x, 0, Check.row(0, 0, 0));
        Check.numbers("9: whole 1", x, 1, Check.row(0, 0, 1));
        Check.numbers("9: whole 9", x, 9, Check.row(2, 2, 2));
        int[][] wrong = {{10, 0}, {-1, 0}, {0, 3}, {0, -1}, {HIGHEST, 0}, {LOWEST, 0}, {0, HIGHEST}, {0, LOWEST}};
        for (int[] w : wrong) {
            Check.throwing("9: node " + java.util.Arrays.toString(w), OUTSIDE, () -> x.node(w[0], w[1]));
        }
        StateExplore high = Models.chain(4, 0, 8);
        Check.same("9: 8 states in 4 nodes", high.run(), 330);
        Check.numbers("9: all sevens", high, 329, Check.row(7, 7, 7, 7));
    }

    private static void code() {
        StateExplore x = Models.askers(2, 100);
        Check.throwing("10: before exploring", OUTSIDE, () -> x.code(0, 0));
        x.run();
        Check.numbers("10: asked", x, 1, Check.row(0, 1), 4);
        Check.numbers("10: both asked", x, 2, Check.row(1, 1), 1, 4);
        Check.numbers("10: answered", x, 3, Check.row(0, 1), 17);
        int[][] wrong = {{0, 0}, {1, 1}, {2, 2}, {1, -1}, {-1, 0}, {HIGHEST, 0}, {1, HIGHEST}, {1, LOWEST}, {1, 7}};
        for (int[] w : wrong) {
            Check.throwing("10: code " + java.util.Arrays.toString(w), OUTSIDE, () -> x.code(w[0], w[1]));
        }
        StateExplore high = new StateExplore(4, 2);
        for (int i = 0; i < 6; i++) {
            high.message();
        }
        high.state();
        high.rule(0, NONE, 1);
        high.sends(0, 5, 1);
        high.sends(0, 0, 1);
        high.go(1);
        Check.numbers("10: the least first", high, 1, Check.row(0, 0, 0, 1), 12, 13, 14, 92, 93, 94);
    }

    private static void whole() {
        StateExplore x = Models.askers(2, 100);
        Check.throwing("11: before exploring", OUTSIDE, () -> x.whole(0, 1));
        x.go(2);
        Check.facts("11: the first", x, 0, 0, NONE, NONE, 2, 2);
        Check.facts("11: asked", x, 1, 1, 0, 0, 2, 1);
        Check.facts("11: both asked", x, 2, 2, 1, 0, NONE, 2);
        Check.facts("11: answered", x, 3, 2, 1, 1, NONE, 1);
        x.run();
        Check.facts("11: both asked, none can answer", x, 2, 2, 1, 0, 0, 2);
        int[][] wrong = {{0, 6}, {0, -1}, {-1, 0}, {99, 0}, {HIGHEST, 0}, {LOWEST, 5}, {0, HIGHEST}, {0, LOWEST}};
        for (int[] w : wrong) {
            Check.throwing("11: whole " + java.util.Arrays.toString(w), OUTSIDE, () -> x.whole(w[0], w[1]));
        }
        int[] ways = {1, 2, 6, 24};
        for (int nodes = 1; nodes <= 4; nodes++) {
            StateExplore alike = new StateExplore(nodes, 1);
            alike.run();
            Check.same("11: ways of " + nodes, alike.whole(0, 5), ways[nodes - 1]);
        }
    }

    private static void way() {
        StateExplore x = Models.chain(2, 100, 4);
        Check.same("12: new", x.way(), NONE);
        x.run();
        Check.same("12: all gone through", x.way(), NONE);
        x.bad(3, 3);
        Check.same("12: not yet looked for", x.way(), NONE);
        x.go(5);
        Check.same("12: not yet found", x.way(), NONE);
        x.run();
        Check.same("12: found", x.way(), 6);
        x.bad(0, 3);
        x.go(1000);
        Check.same("12: found by go", x.way(), 3);
        x.bad(0, 0);
        x.run();
        Check.same("12: whole 0", x.way(), 0);
        StateExplore full = Models.chain(2, 3, 4);
        full.run();
        Check.same("12: no room", full.way(), NONE);
    }

    private static void wayAt() {
        StateExplore x = Models.chain(2, 100, 3);
        Check.throwing("13: new", OUTSIDE, () -> x.wayAt(0));
        x.run();
        Check.throwing("13: none bad", OUTSIDE, () -> x.wayAt(0));
        x.bad(2, 2);
        x.run();
        // 00, 01, 11, 02, 12, 22: 12 comes of 11, which is gone through before 02.
        int[] due = {0, 1, 2, 4, 5};
        for (int i = 0; i < due.length; i++) {
            Check.same("13: wayAt(" + i + ")", x.wayAt(i), due[i]);
        }
        int[] wrong = {-1, 5, 6, HIGHEST, LOWEST};
        for (int i : wrong) {
            Check.throwing("13: wayAt(" + i + ")", OUTSIDE, () -> x.wayAt(i));
        }
        x.bad(0, 0);
        x.run();
        Check.same("13: whole 0", x.wayAt(0), 0);
        Check.throwing("13: behind whole 0", OUTSIDE, () -> x.wayAt(1));
    }

    private static void count() {
        StateExplore x = Models.askers(2, 100);
        Check.same("14: nodes", x.count(0), 2);
        Check.same("14: states", x.count(1), 3);
        Check.same("14: kinds", x.count(2), 2);
        Check.same("14: rules", x.count(3), 3);
        Check.counts("14: before exploring", x, 0, 0, NONE, 0, 0, 0, 0);
        int[] wrong = {-1, 11, 12, LOWEST, HIGHEST};
        for (int what : wrong) {
            Check.same("14: count(" + what + ")", x.count(what), NONE);
        }
        x.go(1);
        Check.counts("14: whole 0 gone through", x, 2, 1, 1, 2, 1, 0, 3);
        x.go(1);
        // From 01 with 4: node 0 asks (11 with 1 and 4), or answers (01 with 17).
        Check.counts("14: whole 1 gone through", x, 4, 2, 2, 4, 1, 0, 6);
        x.go(1);
        Check.counts("14: none can answer", x, 4, 3, 2, 4, 1, 1, 6);
    }

    private static void countSums() {
        int[] powers = {8, 64, 512, 4096};
        for (int nodes = 1; nodes <= 4; nodes++) {
            StateExplore x = Models.chain(nodes, 0, 8);
            x.run();
            Check.same("14: sums of " + nodes, x.count(10), powers[nodes - 1]);
        }
        // Two nodes have sent a and b with a + b from 0 to 7: 1 + 2 + .. + 8 pairs.
        StateExplore y = new StateExplore(2, 1000);
        y.message();
        y.rule(0, NONE, 0);
        y.sends(0, 0, 1);
        y.run();
        Check.same("14: sums with messages", y.count(10), 36);
    }
}
