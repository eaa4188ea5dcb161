/** Small models that the tests explore. */
final class Models {
    static final int NONE = StateExplore.NONE;

    private Models() {
    }

    /** Adds states up to so many in all, and kinds up to so many. */
    static StateExplore with(StateExplore x, int states, int kinds) {
        while (x.count(1) < states) {
            x.state();
        }
        while (x.count(2) < kinds) {
            x.message();
        }
        return x;
    }

    /** States 0 to n - 1 and a rule by itself from each to the next: 0 to 1, 1 to 2, and so on. */
    static StateExplore chain(int nodes, int room, int states) {
        StateExplore x = with(new StateExplore(nodes, room), states, 0);
        for (int i = 1; i < states; i++) {
            x.rule(i - 1, NONE, i);
        }
        return x;
    }

    /** A node in 0 goes to 1 by itself and asks all others; asked in 0 it answers; the answer leads to 2. */
    static StateExplore askers(int nodes, int room) {
        StateExplore x = with(chain(nodes, room, 2), 3, 2);
        x.sends(0, 0, 1);
        x.rule(0, 0, 0);
        x.sends(1, 1, 0);
        x.rule(1, 1, 2);
        return x;
    }

    /** One state, and for each kind a rule by which a node sends it to all others, so many times. */
    static StateExplore talkers(int nodes, int room, int kinds, int times) {
        StateExplore x = with(new StateExplore(nodes, room), 1, kinds);
        for (int kind = 0; kind < kinds; kind++) {
            x.rule(0, NONE, 0);
            for (int i = 0; i < times; i++) {
                x.sends(kind, kind, 1);
            }
        }
        return x;
    }

    /** All that can be asked of an object without changing it, its first four wholes among that. */
    static String answers(StateExplore x) {
        StringBuilder all = new StringBuilder("counts");
        for (int what = 0; what <= 10; what++) {
            all.append(' ').append(x.count(what));
        }
        for (int k = 0; k < Math.min(x.count(4), 4); k++) {
            all.append(" whole");
            for (int what = 0; what <= 5; what++) {
                all.append(' ').append(x.whole(k, what));
            }
            all.append(" numbers");
            for (int node = 0; node < x.count(0); node++) {
                all.append(' ').append(x.node(k, node));
            }
            for (int i = 0; i < x.whole(k, 0); i++) {
                all.append(' ').append(x.code(k, i));
            }
        }
        all.append(" way ").append(x.way());
        for (int i = 0; i <= x.way(); i++) {
            all.append(' ').append(x.wayAt(i));
        }
        return all.toString();
    }
}
