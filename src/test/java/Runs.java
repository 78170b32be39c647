/** What the runs of calls that were worked out by hand share. */
abstract class Runs {
    static final int NONE = QuorumNodes.NONE, DOWN = QuorumNodes.DOWN;
    static final int LEAST = Integer.MIN_VALUE, MOST = Integer.MAX_VALUE;
    static final int[] NO_NODES = {-1, 8, LEAST, MOST};
    static final int[] NO_OBJECTS = {-1, 4, LEAST, MOST};

    static final int QUERY = 1, ANSWER = 2, STORE = 3, STORED = 4, PREPARE = 5, PROMISE = 6, ACCEPT = 7, ACCEPTED = 8;
    static final int REFUSED = 9, COLLECT = 10, COLLECTED = 11, SPREAD = 12, SPREAD_OUT = 13, GOSSIP = 14, JOIN = 15;

    static final Checks C = new Checks();

    static int code(int set, int r, int w) {
        return set + 256 * r + 4096 * w;
    }

    /** Node 0 alone at index 0, the sets behind it ACTIVE too, all known to node 0 alone. */
    static QuorumNodes alone(int... sets) {
        QuorumNodes x = new QuorumNodes(1, 1, 1);
        for (int set : sets) {
            x.propose(0, set, 1, Integer.bitCount(set));
        }
        return x;
    }

    static void deliverAll(QuorumNodes x) {
        for (int i = 0; i < 500 && x.deliver(0) != NONE; i++) {
            continue;
        }
    }

    static void loseAll(QuorumNodes x) {
        for (int i = 0; i < 120 && x.lose(0); i++) {
            continue;
        }
    }

    /** Fills the list with what node 'from' tells 'to', until so many are under way. */
    static void fill(QuorumNodes x, int from, int to, int messages) {
        for (int i = x.count(0); i < messages; i++) {
            x.gossip(from, to);
        }
    }

    /** Which message is the first of this kind from one node to another; NONE if there is none. */
    static int find(QuorumNodes x, int kind, int from, int to) {
        for (int i = 0; i < x.count(0); i++) {
            if (x.message(i, 0) == kind && x.message(i, 1) == from && x.message(i, 2) == to) {
                return i;
            }
        }
        return NONE;
    }

    /** The first message of this kind from one node to another arrives. */
    static void pass(QuorumNodes x, int kind, int from, int to) {
        C.same("kind " + kind + " from " + from + " arrives at " + to, x.deliver(find(x, kind, from, to)), 1);
    }

    /** A request arrives, then its answer, which is the last of all messages. */
    static void exchange(QuorumNodes x, int kind, int from, int to) {
        pass(x, kind, from, to);
        int last = x.count(0) - 1;
        C.same("the answer is from", x.message(last, 1), to);
        C.same("the answer is to", x.message(last, 2), from);
        C.same("the answer arrives", x.deliver(last), 1);
    }

    /** How a message looks: kind, from, to, and what 3 to 9 answer. */
    static void letter(String name, QuorumNodes x, int i, int... due) {
        for (int what = 0; what < due.length; what++) {
            C.same(name + ": message(" + i + ", " + what + ")", x.message(i, what), due[what]);
        }
    }

    static void work(String name, QuorumNodes x, int node, int... due) {
        for (int what = 0; what < due.length; what++) {
            C.same(name + ": task(" + node + ", " + what + ")", x.task(node, what), due[what]);
        }
    }

    static void cellIs(String name, QuorumNodes x, int node, int object, int... due) {
        for (int what = 0; what < due.length; what++) {
            C.same(name + ": cell(" + node + ", " + object + ", " + what + ")", x.cell(node, object, what), due[what]);
        }
    }

    static void mapIs(String name, QuorumNodes x, int node, int index, int... due) {
        for (int what = 0; what < due.length; what++) {
            C.same(name + ": map(" + node + ", " + index + ", " + what + ")", x.map(node, index, what), due[what]);
        }
    }

    static void nodeIs(String name, QuorumNodes x, int node, int... due) {
        for (int what = 0; what < due.length; what++) {
            C.same(name + ": node(" + node + ", " + what + ")", x.node(node, what), due[what]);
        }
    }

    static void countIs(String name, QuorumNodes x, int... due) {
        for (int what = 0; what < due.length; what++) {
            C.same(name + ": count(" + what + ")", x.count(what), due[what]);
        }
    }

    /** What a call that is refused must leave as it was: the counts, who is UP, a node and its task. */
    static String seen(QuorumNodes x, int node) {
        StringBuilder all = new StringBuilder();
        for (int what = 0; what < 5; what++) {
            all.append(x.count(what)).append(' ');
        }
        for (int each = 0; each < 8; each++) {
            all.append(x.node(each, 0)).append(' ');
        }
        for (int what = 1; what < 7; what++) {
            all.append(x.node(node, what)).append(' ');
        }
        for (int what = 0; what < 10; what++) {
            all.append(x.task(node, what)).append(' ');
        }
        return all.toString();
    }
}
