/** For each sentence of promises 7 to 14 that names a boundary a test of its own. */
public final class CallSentencesTest extends Runs {
    private static final int[] NO_MESSAGES = {-1, LEAST, MOST, 120, 121};

    /** A call about a node, or about a message. */
    private interface Call {
        boolean on(QuorumNodes x);
    }

    public static void main(String[] args) throws Exception {
        Sentences.run(CallSentencesTest.class, args, C);
    }

    /** The call is refused and leaves all as it was, above all this node. */
    private static void refused(String name, QuorumNodes x, int node, Call call) {
        String before = seen(x, node);
        C.no(name, call.on(x));
        C.yes(name + " changes nothing", seen(x, node).equals(before));
    }

    // ---- promise 7

    @Says("A node sends a GOSSIP to another one: true")
    static void promise7_sendsAGossip() {
        QuorumNodes x = new QuorumNodes(8, 1, 8);
        C.yes("from the first to the last", x.gossip(0, 7));
        C.yes("from the last to the first", x.gossip(7, 0));
        letter("from 0", x, 0, GOSSIP, 0, 7, 0, 0, 0, 0, 0, 0, 0);
        letter("from 7", x, 1, GOSSIP, 7, 0, 0, 0, 0, 0, 0, 0, 0);
        countIs("no task, no write", x, 2, 0, 0, 8, 0);
    }

    @Says("False: there are none such")
    static void promise7_noSuchNode() {
        QuorumNodes x = new QuorumNodes(8, 1, 8);
        for (int no : NO_NODES) {
            refused("from " + no, x, 0, y -> y.gossip(no, 0));
        }
    }

    @Says("False: there are none such")
    static void promise7_toNoSuchNode() {
        QuorumNodes x = new QuorumNodes(8, 1, 8);
        for (int no : NO_NODES) {
            refused("to " + no, x, 0, y -> y.gossip(0, no));
        }
        refused("from none to none", x, 0, y -> y.gossip(8, -1));
    }

    @Says("they are the same")
    static void promise7_theyAreTheSame() {
        QuorumNodes x = new QuorumNodes(8, 1, 8);
        refused("the first one", x, 0, y -> y.gossip(0, 0));
        refused("the last one", x, 7, y -> y.gossip(7, 7));
    }

    @Says("the first one is not UP")
    static void promise7_theFirstOneIsNotUp() {
        QuorumNodes x = new QuorumNodes(3, 2, 2);
        refused("ABSENT", x, 3, y -> y.gossip(3, 0));
        x.crash(1);
        refused("DOWN", x, 1, y -> y.gossip(1, 0));
        x.restart(1);
        C.yes("UP again", x.gossip(1, 0));
    }

    /** It is said of the first one alone. */
    @Says("the first one is not UP")
    static void promise7_theSecondOneMayBeNotUp() {
        QuorumNodes x = new QuorumNodes(3, 2, 2);
        x.crash(1);
        C.yes("to one that is DOWN", x.gossip(0, 1));
        C.yes("to one that is ABSENT", x.gossip(0, 7));
        C.same("both are sent", x.count(0), 2);
        C.same("the other one stays ABSENT", x.node(7, 0), 0);
    }

    @Says("or has no ACTIVE configuration in its MAP")
    static void promise7_noActiveConfiguration() {
        QuorumNodes x = new QuorumNodes(3, 2, 2);
        x.join(3, 0);
        refused("it knows of none", x, 3, y -> y.gossip(3, 0));
        deliverAll(x);
        C.yes("it knows of one", x.gossip(3, 0));
    }

    @Says("A node sends a GOSSIP to another one: true")
    static void promise7_trueAlsoIfItIsLost() {
        QuorumNodes x = new QuorumNodes(2, 1, 2);
        fill(x, 0, 1, 120);
        C.same("none is lost so far", x.count(4), 0);
        C.yes("the 121st", x.gossip(1, 0));
        countIs("it is lost", x, 120, 0, 0, 2, 1);
        letter("the last one is as before", x, 119, GOSSIP, 0, 1);
    }

    // ---- promise 8

    @Says("A node that is ABSENT is UP; then it sends a JOIN to another one: true")
    static void promise8_absentIsUp() {
        QuorumNodes x = new QuorumNodes(1, 1, 1);
        C.yes("the last node", x.join(7, 0));
        nodeIs("UP", x, 7, 1, 1, 0, NONE, NONE, 0, 0);
        letter("JOIN", x, 0, JOIN, 7, 0, 0, 0, 0, 0, 0, 0, NONE);
        countIs("it is no write and no task", x, 1, 0, 0, 2, 0);
    }

    @Says("A node that is ABSENT is UP; then it sends a JOIN to another one: true")
    static void promise8_alsoToOneThatIsNotUp() {
        QuorumNodes x = new QuorumNodes(1, 1, 1);
        x.crash(0);
        C.yes("to one that is DOWN", x.join(7, 0));
        C.yes("to one that is ABSENT", x.join(6, 5));
        C.same("that stays so", x.node(5, 0), 0);
        C.same("both are sent", x.count(0), 2);
    }

    @Says("A node that is ABSENT is UP; then it sends a JOIN to another one: true")
    static void promise8_trueAlsoIfItIsLost() {
        QuorumNodes x = new QuorumNodes(2, 1, 2);
        fill(x, 0, 1, 120);
        C.yes("the 121st", x.join(7, 0));
        C.same("UP", x.node(7, 0), 1);
        countIs("it is lost", x, 120, 0, 0, 3, 1);
        letter("the last one is as before", x, 119, GOSSIP, 0, 1);
    }

    @Says("False: there are none such")
    static void promise8_noSuchNode() {
        QuorumNodes x = new QuorumNodes(1, 1, 1);
        for (int no : NO_NODES) {
            refused("node " + no, x, 0, y -> y.join(no, 0));
        }
    }

    @Says("False: there are none such")
    static void promise8_toNoSuchNode() {
        QuorumNodes x = new QuorumNodes(1, 1, 1);
        for (int no : NO_NODES) {
            refused("to " + no, x, 7, y -> y.join(7, no));
        }
        C.same("ABSENT still", x.node(7, 0), 0);
    }

    @Says("they are the same")
    static void promise8_theyAreTheSame() {
        QuorumNodes x = new QuorumNodes(1, 1, 1);
        refused("ABSENT", x, 7, y -> y.join(7, 7));
        C.same("ABSENT still", x.node(7, 0), 0);
        x.join(7, 6);
        refused("UP", x, 7, y -> y.join(7, 7));
    }

    @Says("it is DOWN")
    static void promise8_itIsDown() {
        QuorumNodes x = new QuorumNodes(1, 1, 1);
        x.join(7, 6);
        x.crash(7);
        refused("without an ACTIVE configuration", x, 7, y -> y.join(7, 0));
        x.crash(0);
        refused("with one", x, 0, y -> y.join(0, 7));
        x.restart(7);
        C.yes("UP again, without one", x.join(7, 0));
    }

    @Says("or UP with an ACTIVE configuration")
    static void promise8_upWithAnActiveConfiguration() {
        QuorumNodes x = new QuorumNodes(2, 1, 2);
        refused("from the first", x, 0, y -> y.join(0, 1));
        C.yes("join", x.join(7, 0));
        C.yes("UP without one: once more", x.join(7, 1));
        C.same("both are sent", x.count(0), 2);
        deliverAll(x);
        refused("it knows of one now", x, 7, y -> y.join(7, 0));
        x.crash(7);
        x.restart(7);
        refused("its MAP stays", x, 7, y -> y.join(7, 0));
    }

    // ---- promise 9

    @Says("NONE: there is none")
    static void promise9_thereIsNone() {
        QuorumNodes x = new QuorumNodes(2, 1, 2);
        C.same("none at all", x.deliver(0), NONE);
        fill(x, 0, 1, 2);
        String before = seen(x, 1);
        for (int no : NO_MESSAGES) {
            C.same("message " + no, x.deliver(no), NONE);
        }
        C.same("behind the last one", x.deliver(2), NONE);
        C.yes("nothing changes", seen(x, 1).equals(before));
        C.same("the last one", x.deliver(1), 1);
        C.same("there is one less", x.deliver(1), NONE);
        C.same("the first one", x.deliver(0), 1);
        C.same("none is left", x.deliver(0), NONE);
    }

    @Says("NONE: there is none")
    static void promise9_thereIsNone_of120() {
        QuorumNodes x = new QuorumNodes(2, 1, 2);
        fill(x, 0, 1, 120);
        C.same("behind the last one", x.deliver(120), NONE);
        C.same("the last one", x.deliver(119), 1);
        C.same("119 are left", x.count(0), 119);
        C.same("there is none now", x.deliver(119), NONE);
    }

    @Says("0 if it is lost, as that node is not UP")
    static void promise9_lost_down() {
        QuorumNodes x = new QuorumNodes(2, 2, 2);
        x.read(0, 0);
        x.crash(1);
        C.same("at one that is DOWN", x.deliver(0), 0);
        countIs("taken out, and no answer", x, 0, 1, 0, 1, 0);
        x.restart(1);
        C.same("it is gone", x.deliver(0), NONE);
    }

    @Says("0 if it is lost, as that node is not UP")
    static void promise9_lost_absent() {
        QuorumNodes x = new QuorumNodes(1, 1, 1);
        x.gossip(0, 7);
        C.same("at one that is ABSENT", x.deliver(0), 0);
        countIs("taken out", x, 0, 0, 0, 1, 0);
        nodeIs("ABSENT still", x, 7, 0, 1, 0, NONE, NONE, 0, 0);
    }

    @Says("Message i arrives: 1 (also if the node goes down by it)")
    static void promise9_1AlsoIfTheNodeGoesDownByIt() {
        QuorumNodes x = new QuorumNodes(2, 1, 2);
        x.write(0, 0, 5);
        x.arm(1, 1);
        C.same("QUERY", x.deliver(0), 1);
        C.same("UP still", x.node(1, 0), 1);
        C.same("STORE", x.deliver(0), 1);
        nodeIs("went down", x, 1, 2, 1, 0, 0, 0, 0, 0);
        C.same("the answer to QUERY alone", x.count(0), 1);
    }

    @Says("Message i arrives: 1 (also if the node goes down by it)")
    static void promise9_messageIInAnyOrder() {
        QuorumNodes x = new QuorumNodes(5, 5, 1);
        x.read(0, 0);
        C.same("the last one first", x.deliver(3), 1);
        letter("those ahead of it stay", x, 0, QUERY, 0, 1);
        letter("those ahead of it stay", x, 2, QUERY, 0, 3);
        letter("its answer", x, 3, ANSWER, 4, 0);
        C.same("one between", x.deliver(1), 1);
        letter("the first one stays", x, 0, QUERY, 0, 1);
        letter("those behind move up", x, 1, QUERY, 0, 3);
        letter("those behind move up", x, 2, ANSWER, 4, 0);
        letter("its answer", x, 3, ANSWER, 2, 0);
    }

    // ---- promise 10

    @Says("Message i is lost")
    static void promise10_messageIIsLost() {
        QuorumNodes x = new QuorumNodes(5, 5, 1);
        x.read(0, 0);
        C.yes("one between", x.lose(1));
        letter("ahead of it", x, 0, QUERY, 0, 1);
        letter("behind it", x, 1, QUERY, 0, 3);
        letter("behind it", x, 2, QUERY, 0, 4);
        C.yes("the last one", x.lose(2));
        C.yes("the first one", x.lose(0));
        letter("the one that is left", x, 0, QUERY, 0, 3);
        C.yes("the only one", x.lose(0));
        countIs("none was lost for want of room", x, 0, 1, 0, 5, 0);
        work("those ASKED stay so", x, 0, 1, 1, 1, 0, 0, 31, 1);
    }

    @Says("false if there is none")
    static void promise10_thereIsNone() {
        QuorumNodes x = new QuorumNodes(2, 1, 2);
        refused("none at all", x, 0, y -> y.lose(0));
        fill(x, 0, 1, 2);
        for (int no : NO_MESSAGES) {
            refused("message " + no, x, 0, y -> y.lose(no));
        }
        refused("behind the last one", x, 0, y -> y.lose(2));
        C.yes("the last one", x.lose(1));
        refused("there is one less", x, 0, y -> y.lose(1));
    }

    @Says("false if there is none")
    static void promise10_thereIsNone_of120() {
        QuorumNodes x = new QuorumNodes(2, 1, 2);
        fill(x, 0, 1, 120);
        refused("behind the last one", x, 0, y -> y.lose(120));
        C.yes("the last one", x.lose(119));
        C.same("119 are left", x.count(0), 119);
        refused("there is none now", x, 0, y -> y.lose(119));
        C.yes("gossip", x.gossip(0, 1));
        countIs("there was room", x, 120, 0, 0, 2, 0);
    }

    // ---- promise 11

    @Says("Message i is under way a second time, behind all others")
    static void promise11_behindAllOthers() {
        QuorumNodes x = new QuorumNodes(3, 2, 2);
        x.write(2, 3, -1);
        exchange(x, QUERY, 2, 0);
        loseAll(x);
        x.again(2);
        x.gossip(1, 0);
        C.yes("the first one", x.twice(0));
        C.same("four", x.count(0), 4);
        letter("it stays", x, 0, STORE, 2, 0, 1, 2, 3, 1, 2, -1, 0);
        letter("behind all others", x, 3, STORE, 2, 0, 1, 2, 3, 1, 2, -1, 0);
        C.yes("the last one", x.twice(3));
        letter("a third time", x, 4, STORE, 2, 0, 1, 2, 3, 1, 2, -1, 0);
        letter("between", x, 2, GOSSIP, 1, 0);
    }

    /** The second one has the MAP and the cells that the first one has, whatever its sender has by now. */
    @Says("Message i is under way a second time, behind all others")
    static void promise11_theSameMessage() {
        QuorumNodes x = alone();
        x.write(0, 1, 7);
        x.gossip(0, 1);
        x.write(0, 1, 8);
        x.propose(0, 1, 1, 1);
        C.yes("twice", x.twice(0));
        C.yes("lose", x.lose(0));
        letter("its MAP", x, 0, GOSSIP, 0, 1, 0, 0, 0, 0, 0, 0, 0);
        x.join(1, 2);
        x.deliver(0);
        nodeIs("index 0 alone", x, 1, 1, 1, 0, 0, 0);
        cellIs("the first value", x, 1, 1, 1, 0, 7);
    }

    @Says("false if there is none, or 120 are under way")
    static void promise11_thereIsNone() {
        QuorumNodes x = new QuorumNodes(2, 1, 2);
        refused("none at all", x, 0, y -> y.twice(0));
        fill(x, 0, 1, 2);
        for (int no : NO_MESSAGES) {
            refused("message " + no, x, 0, y -> y.twice(no));
        }
        refused("behind the last one", x, 0, y -> y.twice(2));
        C.yes("the last one", x.twice(1));
        C.yes("there is one more", x.twice(2));
    }

    @Says("false if there is none, or 120 are under way")
    static void promise11_120AreUnderWay() {
        QuorumNodes x = new QuorumNodes(2, 1, 2);
        fill(x, 0, 1, 119);
        C.yes("the 120th", x.twice(118));
        C.same("120", x.count(0), 120);
        refused("not the 121st", x, 0, y -> y.twice(0));
        refused("not the 121st", x, 0, y -> y.twice(119));
        C.same("that is no message lost", x.count(4), 0);
        x.lose(0);
        C.yes("there is room again", x.twice(0));
    }

    // ---- promise 12

    @Says("A node goes down")
    static void promise12_aNodeGoesDown() {
        QuorumNodes x = new QuorumNodes(8, 8, 8);
        C.yes("the first one", x.crash(0));
        C.yes("the last one", x.crash(7));
        nodeIs("DOWN", x, 0, 2, 1, 0, 0, 0, 0, 0);
        nodeIs("DOWN", x, 7, 2, 1, 0, 0, 0, 0, 0);
        countIs("no write", x, 0, 0, 0, 6, 0);
    }

    @Says("false if there is none such")
    static void promise12_noSuchNode() {
        QuorumNodes x = new QuorumNodes(8, 8, 8);
        for (int no : NO_NODES) {
            refused("node " + no, x, 0, y -> y.crash(no));
        }
    }

    @Says("or it is not UP")
    static void promise12_itIsNotUp() {
        QuorumNodes x = new QuorumNodes(3, 2, 2);
        refused("ABSENT", x, 7, y -> y.crash(7));
        x.crash(0);
        refused("DOWN", x, 0, y -> y.crash(0));
        x.restart(0);
        C.yes("UP again", x.crash(0));
    }

    /** It is a node that is UP, though it knows of no configuration. */
    @Says("A node goes down")
    static void promise12_alsoWithoutAConfiguration() {
        QuorumNodes x = new QuorumNodes(1, 1, 1);
        x.join(7, 0);
        C.yes("crash", x.crash(7));
        C.same("DOWN, not ABSENT", x.node(7, 0), 2);
    }

    // ---- promise 13

    @Says("A node is UP again, its INCARNATION rises by 1")
    static void promise13_itsIncarnationRisesBy1() {
        QuorumNodes x = new QuorumNodes(8, 8, 8);
        for (int times = 1; times <= 3; times++) {
            x.crash(7);
            C.same("not as it goes down", x.node(7, 1), times);
            C.yes("restart", x.restart(7));
            nodeIs("UP", x, 7, 1, times + 1, 0, 0, 0, 0, 0);
            C.same("a write", x.count(2), times);
        }
        C.same("the others'", x.node(0, 1), 1);
        C.same("all are UP", x.count(3), 8);
    }

    @Says("false if there is none such")
    static void promise13_noSuchNode() {
        QuorumNodes x = new QuorumNodes(8, 8, 8);
        x.crash(0);
        x.crash(7);
        for (int no : NO_NODES) {
            refused("node " + no, x, 0, y -> y.restart(no));
        }
        C.yes("the first one", x.restart(0));
        C.yes("the last one", x.restart(7));
    }

    @Says("or it is not DOWN")
    static void promise13_itIsNotDown() {
        QuorumNodes x = new QuorumNodes(3, 2, 2);
        refused("ABSENT", x, 7, y -> y.restart(7));
        refused("UP", x, 0, y -> y.restart(0));
        x.crash(0);
        C.yes("DOWN", x.restart(0));
        refused("UP again", x, 0, y -> y.restart(0));
    }

    @Says("A node is UP again")
    static void promise13_alsoOneThatWentDownByAWrite() {
        QuorumNodes x = alone();
        x.arm(0, 1);
        x.write(0, 0, 5);
        C.same("DOWN", x.node(0, 0), 2);
        C.yes("restart", x.restart(0));
        nodeIs("UP, not armed", x, 0, 1, 2, 0, 0, 0, 0, 0);
        C.same("it writes", x.write(0, 0, 5), 2);
    }

    // ---- promise 14

    @Says("A node is armed with n (1 to 100)")
    static void promise14_1To100_theLeast() {
        QuorumNodes x = alone();
        C.yes("1", x.arm(0, 1));
        C.same("armed", x.node(0, 6), 1);
        C.same("its next write", x.write(0, 0, 5), DOWN);
        cellIs("it is not written", x, 0, 0, 0, 0, 0);
    }

    @Says("A node is armed with n (1 to 100)")
    static void promise14_1To100_theMost() {
        QuorumNodes x = alone();
        C.yes("100", x.arm(0, 100));
        C.same("armed", x.node(0, 6), 100);
        for (int i = 1; i < 100; i++) {
            C.same("write", x.write(0, 0, i), i);
            C.same("armed still", x.node(0, 6), 100 - i);
        }
        C.same("the 100th", x.write(0, 0, 100), DOWN);
        cellIs("the 99th", x, 0, 0, 99, 0, 99);
    }

    @Says("no more with 0")
    static void promise14_noMoreWith0() {
        QuorumNodes x = alone();
        C.yes("1", x.arm(0, 1));
        C.yes("0", x.arm(0, 0));
        C.same("not armed", x.node(0, 6), 0);
        C.same("it writes", x.write(0, 0, 5), 1);
        C.yes("0, though it is not armed", x.arm(0, 0));
        C.same("it writes", x.write(0, 0, 5), 2);
    }

    @Says("false if n is none of these")
    static void promise14_nIsNoneOfThese() {
        QuorumNodes x = new QuorumNodes(2, 1, 2);
        x.arm(0, 7);
        for (int n : new int[] {-1, 101, LEAST, MOST}) {
            refused("n " + n, x, 0, y -> y.arm(0, n));
        }
        C.same("armed as before", x.node(0, 6), 7);
    }

    @Says("or there is no such node UP")
    static void promise14_noSuchNode() {
        QuorumNodes x = new QuorumNodes(8, 1, 8);
        for (int no : NO_NODES) {
            refused("node " + no, x, 0, y -> y.arm(no, 1));
            refused("node " + no + " with 0", x, 0, y -> y.arm(no, 0));
        }
        C.yes("the first one", x.arm(0, 1));
        C.yes("the last one", x.arm(7, 1));
    }

    @Says("or there is no such node UP")
    static void promise14_noSuchNodeUp() {
        QuorumNodes x = new QuorumNodes(3, 2, 2);
        refused("ABSENT", x, 7, y -> y.arm(7, 1));
        refused("ABSENT, with 0", x, 7, y -> y.arm(7, 0));
        x.crash(0);
        refused("DOWN", x, 0, y -> y.arm(0, 1));
        refused("DOWN, with 0", x, 0, y -> y.arm(0, 0));
        x.restart(0);
        C.same("not armed", x.node(0, 6), 0);
        x.join(7, 0);
        C.yes("UP, though it knows of no configuration", x.arm(7, 1));
    }
}
