/** Each sentence under "What it is" and "Terms" that names a boundary case, by a test of its own. */
public final class TermsTest {
    private static final int NONE = StateExplore.NONE;
    private static final Class<IllegalArgumentException> ILLEGAL = IllegalArgumentException.class;
    private static final Class<IndexOutOfBoundsException> OUTSIDE = IndexOutOfBoundsException.class;
    private static final String WHERE = "Terms";

    public static void main(String[] args) {
        Check.sentence("What it is", "An object is used for at most 512 calls", TermsTest::calls512);
        Check.sentence(WHERE, "NODES 0 .. N - 1", TermsTest::nodes);
        Check.sentence(WHERE, "each in one of up to 8 STATES", TermsTest::eightStates);
        Check.sentence(WHERE, "up to 6 KINDS of messages", TermsTest::sixKinds);
        Check.sentence(WHERE, "MESSAGES on their way have a kind, the node that sent it, the node that it goes to",
                TermsTest::messages);
        Check.sentence(WHERE, "what is on its way (each as often as it is; at most 7)", TermsTest::asOftenAsItIs);
        rules();
        forms();
        exploring();
        Check.sentence(WHERE, "Of several exceptions the first one told is thrown.", TermsTest::firstException);
        Check.sentence(WHERE, "`NONE = -1`: Nothing there; by itself.", TermsTest::none);
        Check.end("TermsTest");
    }

    private static void rules() {
        Check.sentence(WHERE, "a node in a state may go to another one (or the same)", TermsTest::toTheSameState);
        Check.sentence(WHERE, "by itself (event NONE), or by a message of a kind", TermsTest::noMessageNoStep);
        Check.sentence(WHERE, "which it receives (that is on its way no more)", TermsTest::received);
        Check.sentence(WHERE, "Then it sends: up to 4 messages of a rule, each of a kind", TermsTest::noneToFourSent);
        Check.sentence(WHERE, "to THE SENDER of the one received (0)", TermsTest::toTheSender);
        Check.sentence(WHERE, "or to ALL other nodes, one each (1)", TermsTest::toAllOthers);
        Check.sentence(WHERE, "A step that would leave more than 7 on their way can not be made.",
                TermsTest::moreThanSeven);
    }

    private static void forms() {
        Check.sentence(WHERE, "Two wholes are THE SAME, if nodes can be numbered anew so that one becomes the other",
                TermsTest::sameAnew);
        Check.sentence(WHERE, "(states and messages alike)", TermsTest::sameInBoth);
        Check.sentence(WHERE, "their CODES (16 * kind + 4 * from + to), the least first", TermsTest::codesInOrder);
        Check.sentence(WHERE, "Of all that are the same the one whose numbers are the least"
                + " (the first number in which they differ) stands for them.", TermsTest::leastForm);
    }

    private static void exploring() {
        Check.sentence(WHERE, "whole 0, which comes with the first run() or go()", TermsTest::wholeZeroComes);
        Check.sentence(WHERE, "has all nodes in state 0, nothing on its way", TermsTest::wholeZeroIsEmpty);
        Check.sentence(WHERE, "(it may be bad)", TermsTest::wholeZeroIsBad);
        Check.sentence(WHERE, "Wholes are gone through in their order", TermsTest::wholesInOrder);
        Check.sentence(WHERE, "from each all steps: node by node, rule by rule", TermsTest::nodesThenRules);
        Check.sentence(WHERE, "by itself or by each code that there is for it (the least first, once each)",
                TermsTest::codesOnceEach);
        Check.sentence(WHERE, "what comes of it, by its form, is a whole more, if it was not there",
                TermsTest::wholeMore);
        Check.sentence(WHERE, "its LEVEL is one more than that of the one that it came from", TermsTest::levels);
        Check.sentence(WHERE, "A whole is BAD, if a bad pair of states is in two nodes of it", TermsTest::badInTwoNodes);
        Check.sentence(WHERE, "(also twice the same state, if so told)", TermsTest::badTwiceTheSame);
    }

    /** The first call and the 512th answer alike, and so does what stands between them. */
    private static void calls512() {
        StateExplore x = new StateExplore(2, 3);
        x.state();
        x.rule(0, NONE, 1);
        for (int call = 3; call <= 512; call += 2) {
            Check.same("call " + call, x.run(), 3);
            Check.same("call " + (call + 1), x.node(2, 1), 1);
        }
    }

    private static void nodes() {
        for (int n = 1; n <= 4; n++) {
            StateExplore x = Models.chain(n, 100, 2);
            x.run();
            for (int node = 0; node < n; node++) {
                Check.same("node " + node + " of " + n, x.node(n, node), 1);
            }
            int behind = n;
            Check.throwing("node " + n + " of " + n, OUTSIDE, () -> x.node(behind, behind));
            Check.throwing("node -1 of " + n, OUTSIDE, () -> x.node(behind, -1));
        }
    }

    /** All nodes go from 0 up to 7: as many wholes as there are rows of n that do not fall. */
    private static void eightStates() {
        int[] due = {8, 36, 120, 330};
        for (int n = 1; n <= 4; n++) {
            StateExplore x = Models.chain(n, 1000, 8);
            Check.same("wholes of " + n, x.run(), due[n - 1]);
            for (int node = 0; node < n; node++) {
                Check.same("node " + node + " of " + n + " in the last", x.node(due[n - 1] - 1, node), 7);
            }
        }
    }

    private static void sixKinds() {
        StateExplore x = Models.talkers(2, 100, 6, 1);
        Check.same("one whole for each kind", x.go(1), 7);
        for (int kind = 0; kind < 6; kind++) {
            Check.numbers("kind " + kind, x, 1 + kind, Check.row(0, 0), 16 * kind + 1);
        }
        StateExplore received = Models.with(new StateExplore(2, 100), 3, 6);
        received.rule(0, NONE, 1);
        received.sends(0, 5, 1);
        received.rule(0, 5, 2);
        received.go(2);
        Check.numbers("kind 5 on its way", received, 1, Check.row(0, 1), 84);
        Check.numbers("kind 5 received", received, 3, Check.row(1, 2));
    }

    private static void messages() {
        StateExplore x = Models.with(Models.chain(4, 10, 2), 2, 2);
        x.sends(0, 1, 1);
        x.go(1);
        Check.numbers("of kind 1, from 3, to 0, 1, 2", x, 1, Check.row(0, 0, 0, 1), 28, 29, 30);
    }

    /** Wholes by how many each of two nodes has sent: 16 to 19 are 7 and 0, 6 and 1, 5 and 2, 4 and 3. */
    private static void asOftenAsItIs() {
        StateExplore x = Models.talkers(2, 100, 1, 1);
        Check.same("none to seven", x.run(), 20);
        Check.numbers("one", x, 1, Check.row(0, 0), 1);
        Check.numbers("twice the same", x, 2, Check.row(0, 0), 1, 1);
        Check.numbers("seven times the same", x, 16, Check.row(0, 0), 1, 1, 1, 1, 1, 1, 1);
        Check.numbers("four and three", x, 19, Check.row(0, 0), 1, 1, 1, 1, 4, 4, 4);
        Check.throwing("an eighth", OUTSIDE, () -> x.code(16, 7));
        StateExplore high = Models.with(new StateExplore(2, 100), 8, 6);
        high.rule(0, NONE, 7);
        high.rule(7, NONE, 7);
        high.sends(1, 5, 1);
        // 00; 07 with none to seven on their way; 77 with as many wholes as above.
        Check.same("none to seven, in the last state and of the last kind", high.run(), 29);
        Check.numbers("seven in the last state", high, 25, Check.row(7, 7), 81, 81, 81, 81, 81, 81, 81);
        Check.numbers("four and three in the last state", high, 28, Check.row(7, 7), 81, 81, 81, 81, 84, 84, 84);
    }

    private static void toTheSameState() {
        StateExplore x = new StateExplore(2, 10);
        x.rule(0, NONE, 0);
        Check.same("only whole 0", x.run(), 1);
        Check.counts("steps from whole 0 to itself", x, 1, 1, 0, 2, 2, 0, 1);
        Check.same("a step for each node", x.whole(0, 4), 2);
    }

    private static void noMessageNoStep() {
        StateExplore x = Models.with(new StateExplore(2, 10), 2, 1);
        x.rule(0, 0, 1);
        Check.same("nothing is on its way", x.run(), 1);
        Check.same("and so no step", x.whole(0, 4), 0);
        StateExplore other = Models.with(Models.chain(2, 10, 2), 3, 2);
        other.sends(0, 1, 1);
        other.rule(0, 0, 2);
        Check.same("one of another kind is on its way", other.run(), 3);
        StateExplore own = Models.with(Models.chain(2, 10, 2), 3, 1);
        own.sends(0, 0, 1);
        own.rule(1, 0, 2);
        own.go(2);
        Check.numbers("one for the other node is on its way", own, 1, Check.row(0, 1), 4);
        Check.same("and the one that sent it does not receive it", own.whole(1, 4), 1);
    }

    private static void received() {
        StateExplore x = Models.with(Models.chain(2, 10, 2), 3, 1);
        x.sends(0, 0, 1);
        x.rule(1, 0, 2);
        Check.same("up to both received", x.run(), 5);
        Check.numbers("two on their way", x, 2, Check.row(1, 1), 1, 4);
        Check.numbers("one received", x, 3, Check.row(1, 2), 4);
        Check.numbers("both received", x, 4, Check.row(2, 2));
        StateExplore twice = Models.with(Models.chain(2, 10, 2), 2, 1);
        twice.sends(0, 0, 1);
        twice.sends(0, 0, 1);
        twice.rule(0, 0, 0);
        twice.go(2);
        Check.numbers("two alike", twice, 1, Check.row(0, 1), 4, 4);
        Check.numbers("one of two alike received", twice, 3, Check.row(0, 1), 4);
    }

    private static void noneToFourSent() {
        for (int times = 0; times <= 4; times++) {
            StateExplore x = Models.with(Models.chain(2, 10, 2), 2, 4);
            int[] codes = new int[times];
            for (int i = 0; i < times; i++) {
                x.sends(0, i, 1);
                codes[i] = 16 * i + 4;
            }
            x.go(1);
            Check.numbers(times + " sent", x, 1, Check.row(0, 1), codes);
        }
        StateExplore received = Models.with(Models.chain(2, 10, 2), 3, 1);
        received.sends(0, 0, 1);
        received.rule(0, 0, 2);
        received.go(2);
        Check.numbers("received, none sent", received, 3, Check.row(1, 2));
    }

    private static void toTheSender() {
        StateExplore x = Models.with(Models.chain(3, 10, 2), 3, 2);
        x.sends(0, 0, 1);
        x.rule(0, 0, 2);
        x.sends(1, 1, 0);
        x.go(2);
        Check.numbers("asked by node 2", x, 1, Check.row(0, 0, 1), 8, 9);
        Check.numbers("answered to the one in 1 alone", x, 3, Check.row(0, 1, 2), 4, 25);
        StateExplore four = Models.with(Models.chain(2, 10, 2), 3, 2);
        four.sends(0, 0, 1);
        four.rule(0, 0, 2);
        for (int i = 0; i < 4; i++) {
            four.sends(1, 1, 0);
        }
        four.go(2);
        Check.numbers("four times to the sender", four, 3, Check.row(1, 2), 20, 20, 20, 20);
    }

    private static void toAllOthers() {
        int[][] codes = {{}, {4}, {8, 9}, {12, 13, 14}};
        for (int n = 1; n <= 4; n++) {
            StateExplore x = Models.with(Models.chain(n, 10, 2), 2, 1);
            x.sends(0, 0, 1);
            x.go(1);
            int[] states = new int[n];
            states[n - 1] = 1;
            Check.numbers("the others of " + n, x, 1, states, codes[n - 1]);
        }
        StateExplore alone = Models.talkers(1, 10, 1, 4);
        Check.same("a single node has no others", alone.run(), 1);
        Check.counts("a single node", alone, 1, 1, 0, 1, 1, 0, 1);
    }

    private static void moreThanSeven() {
        StateExplore seven = Models.talkers(2, 100, 1, 1);
        seven.run();
        Check.same("a seventh can be sent", seven.whole(12, 4), 2);
        Check.same("an eighth can not", seven.whole(16, 4), 0);
        StateExplore eight = Models.talkers(3, 100, 1, 4);
        Check.same("eight at once", eight.run(), 1);
        Check.counts("eight at once", eight, 1, 1, 0, 0, 0, 1, 1);
        StateExplore six = Models.talkers(4, 100, 1, 2);
        Check.same("six at once, twelve not", six.run(), 2);
        Check.counts("six at once, twelve not", six, 2, 2, 1, 4, 3, 1, 5);
        moreThanSevenByReceiving();
    }

    private static void moreThanSevenByReceiving() {
        StateExplore one = Models.talkers(2, 100, 1, 1);
        one.rule(0, 0, 0);
        one.sends(1, 0, 0);
        one.run();
        // Six 1s and a 4: node 0 can receive the 4, node 1 a 1.
        Check.same("one of seven received, one sent", one.whole(17, 4), 2);
        one.sends(1, 0, 1);
        Check.same("one received, two sent", one.run(), 20);
        Check.same("one of six received, two sent", one.whole(12, 4), 3);
        Check.same("one of seven received, two sent", one.whole(17, 4), 0);
        Check.same("none goes on from seven", one.count(9), 4);
    }

    private static void sameAnew() {
        for (int n = 1; n <= 4; n++) {
            StateExplore x = Models.with(Models.chain(n, 10, 2), 2, 1);
            x.sends(0, 0, 1);
            Check.same("whichever of " + n + " goes first", x.go(1), 2);
            Check.counts("whichever of " + n + " goes first", x, 2, 1, 1, n, n - 1, 0, 1 + n);
        }
        // Rows of n states that do not fall; to sort them it is not enough that two nodes change places.
        int[] due = {4, 10, 20, 35};
        for (int n = 1; n <= 4; n++) {
            StateExplore jumps = Models.chain(n, 100, 4);
            jumps.rule(0, NONE, 2);
            jumps.rule(0, NONE, 3);
            Check.same("all of " + n, jumps.run(), due[n - 1]);
        }
    }

    private static void sameInBoth() {
        StateExplore x = Models.talkers(2, 100, 1, 1);
        x.go(2);
        Check.numbers("two from one", x, 2, Check.row(0, 0), 1, 1);
        Check.numbers("one from each is another whole", x, 3, Check.row(0, 0), 1, 4);
        StateExplore y = Models.with(Models.chain(2, 100, 2), 2, 1);
        y.rule(1, NONE, 1);
        y.sends(1, 0, 1);
        y.rule(0, NONE, 0);
        y.sends(2, 0, 1);
        y.go(2);
        Check.numbers("from the one in 0", y, 4, Check.row(0, 1), 1);
        Check.numbers("from the one in 1 is another whole", y, 5, Check.row(0, 1), 4);
    }

    private static void codesInOrder() {
        StateExplore least = Models.talkers(2, 10, 1, 1);
        least.go(1);
        Check.same("the least code", least.code(1, 0), 1);
        StateExplore x = Models.with(Models.chain(4, 10, 2), 2, 6);
        x.sends(0, 5, 1);
        x.sends(0, 0, 1);
        x.go(1);
        Check.numbers("up to the greatest code", x, 1, Check.row(0, 0, 0, 1), 12, 13, 14, 92, 93, 94);
    }

    private static void leastForm() {
        StateExplore states = Models.with(Models.chain(2, 10, 2), 2, 1);
        states.sends(0, 0, 1);
        states.go(1);
        // 0 1 with code 4, not 1 0 with code 1.
        Check.numbers("states before codes", states, 1, Check.row(0, 1), 4);
        StateExplore codes = Models.talkers(2, 100, 1, 1);
        codes.go(4);
        Check.numbers("the first code", codes, 1, Check.row(0, 0), 1);
        Check.numbers("the second code", codes, 5, Check.row(0, 0), 1, 1, 4);
        StateExplore four = Models.talkers(4, 100, 1, 1);
        four.go(2);
        Check.numbers("four nodes", four, 1, Check.row(0, 0, 0, 0), 1, 2, 3);
        Check.numbers("four nodes, two sent", four, 3, Check.row(0, 0, 0, 0), 1, 2, 3, 4, 6, 7);
    }

    private static void wholeZeroComes() {
        Check.same("not with a new object", new StateExplore(2, 10).count(4), 0);
        StateExplore x = Models.chain(2, 10, 2);
        Check.same("before", x.count(4), 0);
        Check.throwing("node(0, 0) before", OUTSIDE, () -> x.node(0, 0));
        Check.throwing("a refused go()", ILLEGAL, () -> x.go(0));
        Check.same("a refused go() does not bring it", x.count(4), 0);
        Check.same("way() does not bring it", x.way(), NONE);
        Check.same("by go()", x.go(1), 2);
        Check.same("node(0, 0) by go()", x.node(0, 0), 0);
        x.state();
        Check.same("gone again", x.count(4), 0);
        Check.same("by run()", x.run(), 3);
        Check.same("node(0, 0) by run()", x.node(0, 0), 0);
    }

    private static void wholeZeroIsEmpty() {
        for (int n = 1; n <= 4; n++) {
            StateExplore x = Models.askers(n, 1);
            x.go(1);
            Check.numbers("whole 0 of " + n, x, 0, new int[n]);
            Check.throwing("no code in whole 0 of " + n, OUTSIDE, () -> x.code(0, 0));
            Check.facts("whole 0 of " + n, x, 0, 0, NONE, NONE);
        }
    }

    private static void wholeZeroIsBad() {
        StateExplore x = Models.chain(2, 10, 2);
        x.bad(0, 0);
        Check.same("run()", x.run(), -2);
        Check.same("way()", x.way(), 0);
        Check.same("wayAt(0)", x.wayAt(0), 0);
        Check.counts("whole 0 alone", x, 1, 0, 0, 0, 0, 0, 1);
        StateExplore alone = Models.chain(1, 10, 2);
        alone.bad(0, 0);
        Check.same("not with a single node", alone.run(), 2);
        StateExplore full = Models.chain(4, 1, 2);
        full.bad(0, 0);
        Check.same("in room for one", full.go(7), 1);
        Check.same("in room for one, run()", full.run(), -2);
    }

    /** 00, then 01 and 02 of it, then 11 of 01 before 22 of 02. */
    private static void wholesInOrder() {
        StateExplore x = Models.chain(2, 10, 3);
        x.rule(0, NONE, 2);
        x.run();
        int[][] due = {{0, 0}, {0, 1}, {0, 2}, {1, 1}, {1, 2}, {2, 2}};
        int[] from = {NONE, 0, 0, 1, 1, 2};
        Check.same("six wholes", x.count(4), due.length);
        for (int k = 0; k < due.length; k++) {
            Check.numbers("in order", x, k, due[k]);
            Check.same("whole " + k + " came from", x.whole(k, 2), from[k]);
        }
    }

    /** From 01 node 0 has rules 0 and 2, node 1 rule 1: its steps are 11, 31, 02. */
    private static void nodesThenRules() {
        StateExplore x = Models.with(new StateExplore(2, 100), 4, 0);
        x.rule(0, NONE, 1);
        x.rule(1, NONE, 2);
        x.rule(0, NONE, 3);
        x.go(2);
        int[][] due = {{0, 0}, {0, 1}, {0, 3}, {1, 1}, {1, 3}, {0, 2}};
        int[] rules = {NONE, 0, 2, 0, 2, 1};
        Check.same("six wholes", x.count(4), due.length);
        for (int k = 0; k < due.length; k++) {
            Check.numbers("in order", x, k, due[k]);
            Check.same("the rule of whole " + k, x.whole(k, 3), rules[k]);
        }
    }

    private static void codesOnceEach() {
        StateExplore twice = Models.with(Models.chain(2, 10, 2), 3, 1);
        twice.sends(0, 0, 1);
        twice.sends(0, 0, 1);
        twice.rule(0, 0, 2);
        twice.go(2);
        Check.numbers("two alike", twice, 1, Check.row(0, 1), 4, 4);
        Check.same("by itself, and by the code once", twice.whole(1, 4), 2);
        // Whole 4: node 0 in 0 is asked by node 1 in 1 and by node 2 in 2. It receives 4, then 8.
        StateExplore least = Models.with(new StateExplore(3, 1000), 4, 1);
        least.rule(0, NONE, 1);
        least.sends(0, 0, 1);
        least.rule(0, NONE, 2);
        least.sends(1, 0, 1);
        least.rule(0, 0, 3);
        Check.same("up to whole 4", least.go(5), 14);
        Check.numbers("asked by two", least, 4, Check.row(0, 1, 2), 4, 6, 8, 9);
        Check.same("two by itself, one by each code", least.whole(4, 4), 4);
        Check.numbers("received 4", least, 12, Check.row(1, 2, 3), 1, 4, 6);
        Check.numbers("received 8", least, 13, Check.row(1, 2, 3), 1, 2, 4);
    }

    private static void wholeMore() {
        StateExplore x = Models.chain(2, 10, 2);
        x.rule(0, NONE, 1);
        x.rule(1, NONE, 0);
        Check.same("00, 01, 11", x.run(), 3);
        // From 00 four steps to 01; from 01 two to 11, one to 00; from 11 two to 01.
        Check.counts("each once", x, 3, 3, 2, 9, 7, 0, 4);
        StateExplore messages = Models.askers(2, 10);
        messages.go(2);
        Check.numbers("asked", messages, 1, Check.row(0, 1), 4);
        Check.numbers("the same states, another code: a whole more", messages, 3, Check.row(0, 1), 17);
    }

    private static void levels() {
        StateExplore x = Models.chain(2, 100, 8);
        x.rule(0, NONE, 7);
        x.run();
        for (int k = 1; k < x.count(4); k++) {
            Check.same("level of whole " + k, x.whole(k, 1), x.whole(x.whole(k, 2), 1) + 1);
        }
        Check.same("level of whole 0", x.whole(0, 1), 0);
        // 67 is six steps by the chain and one by the jump, 66 twice six.
        Check.same("the greatest", x.count(6), 12);
    }

    private static void badInTwoNodes() {
        int[][] pairs = {{0, 3}, {3, 0}};
        for (int[] pair : pairs) {
            StateExplore x = Models.chain(4, 1000, 4);
            x.bad(pair[0], pair[1]);
            Check.same("0 and 3, told " + pair[0] + " first", x.run(), -2);
            Check.same("0 in node 0", x.node(x.wayAt(3), 0), 0);
            Check.same("3 in node 3", x.node(x.wayAt(3), 3), 3);
        }
        StateExplore alone = Models.chain(1, 10, 2);
        alone.bad(0, 1);
        alone.bad(1, 1);
        Check.same("a single node is no two", alone.run(), 2);
        // The last node goes to 1 and asks; then node 0 goes to 2, and those between them are in 0.
        for (int n = 3; n <= 4; n++) {
            StateExplore apart = Models.with(Models.chain(n, 10, 2), 3, 1);
            apart.sends(0, 0, 1);
            apart.rule(0, 0, 2);
            apart.bad(1, 2);
            Check.same("the first and the last of " + n, apart.run(), -2);
            Check.counts("the first and the last of " + n, apart, 4, 1, 2, n + 2);
        }
        StateExplore twice = Models.chain(2, 10, 2);
        twice.rule(0, NONE, 0);
        twice.bad(0, 1);
        Check.same("twice 0 is not 0 and 1", twice.go(1), 2);
        Check.same("0 and 1 is", twice.node(twice.wayAt(1), 1), 1);
        StateExplore never = Models.with(Models.chain(2, 10, 2), 3, 0);
        never.bad(0, 2);
        never.bad(1, 2);
        Check.same("a pair that never comes", never.run(), 3);
    }

    private static void badTwiceTheSame() {
        StateExplore x = Models.chain(3, 100, 2);
        Check.same("not told", x.run(), 4);
        x.bad(1, 1);
        Check.same("told", x.run(), -2);
        Check.same("once is not twice", x.way(), 2);
        Check.numbers("twice", x, x.wayAt(2), Check.row(0, 1, 1));
        StateExplore other = Models.chain(2, 100, 2);
        other.state();
        other.bad(2, 2);
        Check.same("told of another state", other.run(), 3);
        StateExplore apart = Models.chain(2, 100, 2);
        apart.bad(0, 1);
        apart.go(1);
        Check.numbers("00 is not bad by 0 and 1", apart, apart.wayAt(1), Check.row(0, 1));
    }

    private static void firstException() {
        StateExplore x = Models.with(new StateExplore(2, 10), 2, 1);
        for (int i = 0; i < 40; i++) {
            x.rule(0, NONE, 0);
        }
        Check.throwing("no such state, and forty rules", ILLEGAL, () -> x.rule(2, NONE, 0));
        Check.throwing("no such state to go to, and forty rules", ILLEGAL, () -> x.rule(0, NONE, 2));
        Check.throwing("no such kind, and forty rules", ILLEGAL, () -> x.rule(0, 1, 0));
        for (int i = 0; i < 4; i++) {
            x.sends(0, 0, 1);
        }
        Check.throwing("no such kind, and four sent", ILLEGAL, () -> x.sends(0, 1, 1));
        Check.throwing("no such whom, and four sent", ILLEGAL, () -> x.sends(0, 0, 2));
        Check.throwing("no sender, and four sent", ILLEGAL, () -> x.sends(0, 0, 0));
    }

    private static void none() {
        Check.same("NONE", StateExplore.NONE, -1);
        StateExplore x = Models.with(new StateExplore(1, 10), 2, 0);
        Check.same("a rule by itself needs no kind", x.rule(0, -1, 1), 0);
        Check.same("it goes by itself", x.run(), 2);
        Check.same("nothing there", x.whole(0, 2), -1);
    }
}
