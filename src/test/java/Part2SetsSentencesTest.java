/** For each sentence of the terms' PART 2 that names a boundary a test of its own: PROPOSAL, RETIREMENT, GOSSIP, JOIN. */
public final class Part2SetsSentencesTest extends Runs {
    public static void main(String[] args) throws Exception {
        Sentences.run(Part2SetsSentencesTest.class, args, C);
    }

    /** Nodes 0 and 1 know index 0 (node 0) and index 1 (node 1). */
    private static QuorumNodes pair() {
        QuorumNodes x = alone(2);
        x.join(1, 0);
        deliverAll(x);
        return x;
    }

    // ---- PROPOSAL

    @Says("for the index behind the greatest ACTIVE one, k")
    static void part2_proposal_behindTheGreatestActiveOne() {
        QuorumNodes x = pair();
        x.propose(0, 4, 1, 1);
        work("index 2, and 1's nodes are asked", x, 0, 2, 3, 1, 2, 0, 2, 0, 0, 0, 16);
        letter("PREPARE", x, 0, PREPARE, 0, 1, 1, 3, 2, 16, 0, 0, 1);
        C.same("it alone", x.count(0), 1);
    }

    /** Node 0 hears that index 0 is RETIRED; what it asks, and for which index, stays. */
    @Says("(k, and its configuration, as the task begins, whatever becomes of it)")
    static void part2_proposal_kAsTheTaskBegins() {
        QuorumNodes x = pair();
        x.propose(0, 4, 1, 1);
        loseAll(x);
        x.retire(1);
        exchange(x, COLLECT, 1, 0);
        mapIs("RETIRED", x, 1, 0, 2);
        x.gossip(1, 0);
        x.deliver(0);
        work("as before", x, 0, 2, 3, 1, 2, 0, 2, 0, 0, 0, 16);
        C.same("nothing is sent", x.count(0), 0);
        C.same("again", x.again(0), 1);
        letter("the same index", x, 0, PREPARE, 0, 1, 1, 4, 2, 24, 0, 0, 1);
    }

    @Says("ROUND rises by 1 (a write); its ballot is that ROUND and the node")
    static void part2_proposal_roundRisesBy1() {
        QuorumNodes x = new QuorumNodes(8, 8, 1);
        x.propose(5, 1, 1, 1);
        for (int round = 1; round <= 3; round++) {
            C.same("ROUND", x.node(5, 2), round);
            C.same("its ballot", x.task(5, 9), 8 * round + 5);
            C.same("ROUND and PROMISED each time", x.count(2), 2 * round);
            x.again(5);
        }
        x.crash(5);
        x.restart(5);
        x.propose(5, 1, 1, 1);
        C.same("it goes on behind what it had", x.task(5, 9), 8 * 5 + 5);
    }

    @Says("if the ballot is greater than PROMISED (not the same one), it is PROMISED")
    static void part2_prepare_greater() {
        QuorumNodes x = new QuorumNodes(3, 3, 1);
        x.propose(0, 1, 1, 1);
        x.propose(1, 2, 1, 1);
        pass(x, PREPARE, 0, 2);
        letter("8 is greater than 0", x, x.count(0) - 1, PROMISE, 2, 0, 1, 1, 1, 0, 0, 0, 0);
        mapIs("PROMISED", x, 2, 1, 0, 0, 8, 0, 0);
        pass(x, PREPARE, 1, 2);
        letter("9 is greater than 8", x, x.count(0) - 1, PROMISE, 2, 1, 1, 1, 1, 0, 0, 0, 0);
        mapIs("PROMISED", x, 2, 1, 0, 0, 9, 0, 0);
    }

    @Says("if the ballot is greater than PROMISED (not the same one), it is PROMISED")
    static void part2_prepare_notTheSameOne() {
        QuorumNodes x = new QuorumNodes(3, 3, 1);
        x.propose(0, 1, 1, 1);
        x.twice(0);
        pass(x, PREPARE, 0, 1);
        letter("the first time", x, x.count(0) - 1, PROMISE, 1, 0);
        int before = x.count(2);
        pass(x, PREPARE, 0, 1);
        letter("the second time", x, x.count(0) - 1, REFUSED, 1, 0, 1, 1, 1, 8, 0, 0, 0);
        C.same("no write", x.count(2), before);
    }

    @Says("else REFUSED (9) with PROMISED: it has not ANSWERED")
    static void part2_prepare_less() {
        QuorumNodes x = new QuorumNodes(3, 3, 1);
        x.propose(0, 1, 1, 1);
        x.propose(1, 2, 1, 1);
        pass(x, PREPARE, 1, 2);
        pass(x, PREPARE, 0, 2);
        int last = x.count(0) - 1;
        letter("8 is less than 9", x, last, REFUSED, 2, 0, 1, 1, 1, 9, 0, 0, 0);
        mapIs("PROMISED stays", x, 2, 1, 0, 0, 9, 0, 0);
        x.deliver(last);
        work("it has not ANSWERED", x, 0, 1, 3, 1, 1, 0, 7, 1, 0, 0, 8);
    }

    /** REFUSED first, then the PROMISE of the same PREPARE: that one counts still. */
    @Says("else REFUSED (9) with PROMISED: it has not ANSWERED")
    static void part2_refused_thenItMayAnswer() {
        QuorumNodes x = new QuorumNodes(3, 2, 2);
        x.propose(0, 1, 1, 1);
        x.twice(0);
        x.deliver(0);
        x.deliver(1);
        letter("PROMISE", x, 1, PROMISE, 1, 0);
        letter("REFUSED", x, 2, REFUSED, 1, 0);
        x.deliver(2);
        work("not ANSWERED", x, 0, 1, 3, 1, 1, 0, 7, 1);
        x.deliver(1);
        work("ANSWERED: phase 2", x, 0, 1, 3, 2, 1, 0, 7, 1);
    }

    /** Node 1 has PROMISED the ballot 'rounds' * 8 + 2 of node 2. */
    private static QuorumNodes promisedTo2(int rounds) {
        QuorumNodes x = new QuorumNodes(3, 3, 1);
        x.propose(2, 4, 1, 1);
        for (int round = 1; round < rounds; round++) {
            x.again(2);
        }
        x.deliver(2 * rounds - 1);
        C.same("PROMISED", x.map(1, 1, 2), 8 * rounds + 2);
        loseAll(x);
        return x;
    }

    @Says("makes ROUND that ballot's round, if that is greater")
    static void part2_refused_ifThatIsGreater() {
        QuorumNodes x = promisedTo2(5);
        x.propose(0, 1, 1, 1);
        int before = x.count(2);
        exchange(x, PREPARE, 0, 1);
        C.same("ROUND", x.node(0, 2), 5);
        C.same("a write", x.count(2), before + 1);
        C.same("the ballot stays", x.task(0, 9), 8);
        x.again(0);
        C.same("the next one is behind it", x.task(0, 9), 48);
    }

    @Says("makes ROUND that ballot's round, if that is greater")
    static void part2_refused_notIfItIsTheSame() {
        QuorumNodes x = promisedTo2(1);
        x.propose(0, 1, 1, 1);
        int before = x.count(2);
        exchange(x, PREPARE, 0, 1);
        C.same("ROUND", x.node(0, 2), 1);
        C.same("no write", x.count(2), before);
    }

    /** REFUSED with round 2 comes behind REFUSED with round 4. */
    @Says("makes ROUND that ballot's round, if that is greater")
    static void part2_refused_notIfItIsLess() {
        QuorumNodes x = promisedTo2(2);
        x.propose(0, 1, 1, 1);
        x.twice(find(x, PREPARE, 0, 1));
        pass(x, PREPARE, 0, 1);
        x.again(2);
        x.again(2);
        pass(x, PREPARE, 2, 1);
        pass(x, PREPARE, 2, 1);
        pass(x, PREPARE, 0, 1);
        int last = x.count(0) - 1;
        letter("the later REFUSED", x, last, REFUSED, 1, 0, 1, 1, 1, 34);
        x.deliver(last);
        C.same("ROUND", x.node(0, 2), 4);
        int before = x.count(2);
        letter("the earlier one", x, find(x, REFUSED, 1, 0), REFUSED, 1, 0, 1, 1, 1, 18);
        pass(x, REFUSED, 1, 0);
        C.same("ROUND stays", x.node(0, 2), 4);
        C.same("no write", x.count(2), before);
    }

    @Says("a REFUSED that counts (the node's own at once, too)")
    static void part2_refused_theNodesOwnAtOnce() {
        QuorumNodes x = promisedTo2(5);
        C.same("propose", x.propose(1, 2, 1, 1), 2);
        work("by itself", x, 1, 2, 3, 1, 1, 0, 7, 0, 0, 0, 9);
        C.same("ROUND", x.node(1, 2), 5);
        C.same("two others are asked", x.count(0), 2);
    }

    @Says("a REFUSED that counts (the node's own at once, too)")
    static void part2_refused_thatDoesNotCount() {
        QuorumNodes x = promisedTo2(5);
        x.propose(0, 1, 1, 1);
        pass(x, PREPARE, 0, 1);
        x.again(0);
        C.same("ROUND", x.node(0, 2), 2);
        pass(x, REFUSED, 1, 0);
        C.same("of an old SERIAL", x.node(0, 2), 2);
    }

    /** Node 0 is armed: the REFUSED that raises ROUND is a write. */
    @Says("a REFUSED that counts (the node's own at once, too)")
    static void part2_refused_goesDownByIt() {
        QuorumNodes x = promisedTo2(5);
        x.propose(0, 1, 1, 1);
        x.arm(0, 1);
        exchange(x, PREPARE, 0, 1);
        nodeIs("DOWN, ROUND as it was", x, 0, 2, 1, 1);
        QuorumNodes y = promisedTo2(5);
        y.arm(1, 2);
        C.same("by its own", y.propose(1, 2, 1, 1), DOWN);
        nodeIs("DOWN, ROUND as it was", y, 1, 2, 1, 1);
        C.same("to 0 alone, ahead of itself", y.count(0), 1);
    }

    @Says("ENOUGH: R of k's configuration")
    static void part2_proposal_rOfKsConfiguration() {
        QuorumNodes x = new QuorumNodes(5, 3, 4);
        x.propose(4, 1, 1, 1);
        exchange(x, PREPARE, 4, 0);
        C.same("R - 1", x.task(4, 2), 1);
        exchange(x, PREPARE, 4, 3);
        work("R", x, 4, 1, 3, 2, 1, 0, 31, 16, 0, 0, 12);
    }

    @Says("the configuration that has the greatest ACCEPTED ballot of the answers, C if there is none")
    static void part2_proposal_cIfThereIsNone() {
        QuorumNodes x = new QuorumNodes(3, 2, 2);
        x.propose(0, 5, 2, 1);
        exchange(x, PREPARE, 0, 1);
        letter("C", x, find(x, ACCEPT, 0, 1), ACCEPT, 0, 1, 1, 2, 1, 8, code(5, 2, 1), 0, 0);
        mapIs("its own", x, 0, 1, 0, 0, 8, 8, code(5, 2, 1));
    }

    /** Of five nodes 0 has ACCEPTED by ballot 8, 1 by ballot 9, in whichever order they answer node 4. */
    @Says("the configuration that has the greatest ACCEPTED ballot of the answers, C if there is none")
    static void part2_proposal_theGreatestOfTheAnswers() {
        for (int first = 0; first < 2; first++) {
            QuorumNodes x = new QuorumNodes(5, 3, 3);
            for (int node = 0; node < 2; node++) {
                x.propose(node, 1 << node, 1, 1);
                exchange(x, PREPARE, node, 2);
                exchange(x, PREPARE, node, 3);
                mapIs("ACCEPTED alone", x, node, 1, 0, 0, 8 + node, 8 + node, code(1 << node, 1, 1));
                loseAll(x);
            }
            x.propose(4, 16, 1, 1);
            exchange(x, PREPARE, 4, first);
            exchange(x, PREPARE, 4, 1 - first);
            letter("of 9", x, find(x, ACCEPT, 4, 0), ACCEPT, 4, 0, 1, 2, 1, 12, code(2, 1, 1));
        }
    }

    /** What node 3 found in the phase ahead of this one is no answer of this one. */
    @Says("the configuration that has the greatest ACCEPTED ballot of the answers, C if there is none")
    static void part2_proposal_ofTheAnswersOfThisPhase() {
        QuorumNodes x = new QuorumNodes(4, 3, 2);
        x.propose(0, 1, 1, 1);
        exchange(x, PREPARE, 0, 1);
        exchange(x, PREPARE, 0, 2);
        mapIs("ACCEPTED alone", x, 0, 1, 0, 0, 8, 8, code(1, 1, 1));
        loseAll(x);
        x.propose(3, 8, 1, 1);
        exchange(x, PREPARE, 3, 0);
        work("0 has told it", x, 3, 2, 3, 1, 1, 0, 15, 9);
        loseAll(x);
        x.again(3);
        exchange(x, PREPARE, 3, 1);
        exchange(x, PREPARE, 3, 2);
        letter("C", x, find(x, ACCEPT, 3, 0), ACCEPT, 3, 0, 1, 3, 1, 19, code(8, 1, 1));
    }

    /** What node 0 has ACCEPTED goes on, as it is the only one, though it is not that of the proposer. */
    @Says("the configuration that has the greatest ACCEPTED ballot of the answers, C if there is none")
    static void part2_proposal_theNodesOwnToo() {
        QuorumNodes x = new QuorumNodes(3, 2, 2);
        x.propose(0, 1, 1, 1);
        exchange(x, PREPARE, 0, 1);
        loseAll(x);
        x.crash(0);
        x.restart(0);
        x.propose(0, 2, 1, 1);
        exchange(x, PREPARE, 0, 2);
        letter("what it has ACCEPTED itself", x, find(x, ACCEPT, 0, 1), ACCEPT, 0, 1, 2, 2, 1, 16, code(1, 1, 1), 0, 0);
        exchange(x, ACCEPT, 0, 2);
        work("not its own now", x, 0, 2, 3, 0, 1, 0, 7, 5, 0, 0, 16);
    }

    @Says("if the ballot is not less than PROMISED, it is PROMISED and ACCEPTED with that configuration")
    static void part2_accept_theSame() {
        QuorumNodes x = new QuorumNodes(2, 1, 2);
        x.propose(0, 1, 1, 1);
        pass(x, PREPARE, 0, 1);
        mapIs("PROMISED", x, 1, 1, 0, 0, 8, 0, 0);
        pass(x, ACCEPT, 0, 1);
        letter("the same", x, x.count(0) - 1, ACCEPTED, 1, 0, 1, 2, 1, 0, 0, 0, 0);
        mapIs("ACCEPTED", x, 1, 1, 0, 0, 8, 8, code(1, 1, 1));
    }

    @Says("if the ballot is not less than PROMISED, it is PROMISED and ACCEPTED with that configuration")
    static void part2_accept_greater() {
        QuorumNodes x = new QuorumNodes(3, 1, 3);
        x.propose(0, 1, 1, 1);
        x.propose(1, 2, 1, 1);
        pass(x, PREPARE, 0, 2);
        pass(x, ACCEPT, 1, 2);
        letter("greater, without its PREPARE", x, x.count(0) - 1, ACCEPTED, 2, 1);
        mapIs("both", x, 2, 1, 0, 0, 9, 9, code(2, 1, 1));
    }

    @Says("ACCEPTED (8); else REFUSED")
    static void part2_accept_less() {
        QuorumNodes x = new QuorumNodes(3, 1, 3);
        x.propose(0, 1, 1, 1);
        x.propose(1, 2, 1, 1);
        x.again(1);
        pass(x, PREPARE, 1, 2);
        pass(x, PREPARE, 1, 2);
        mapIs("PROMISED", x, 2, 1, 0, 0, 17, 0, 0);
        pass(x, ACCEPT, 0, 2);
        int last = x.count(0) - 1;
        letter("less", x, last, REFUSED, 2, 0, 1, 2, 1, 17, 0, 0, 0);
        mapIs("as before", x, 2, 1, 0, 0, 17, 0, 0);
        x.deliver(last);
        work("not ANSWERED", x, 0, 1, 3, 2, 1, 0, 7, 1);
        C.same("ROUND", x.node(0, 2), 2);
    }

    @Says("ENOUGH: W of k's configuration. Then the index is ACTIVE with that configuration in the node's MAP; it is DONE")
    static void part2_proposal_wOfKsConfiguration() {
        QuorumNodes x = new QuorumNodes(5, 2, 4);
        x.propose(4, 3, 1, 2);
        exchange(x, PREPARE, 4, 0);
        exchange(x, ACCEPT, 4, 0);
        exchange(x, ACCEPT, 4, 1);
        work("W - 1", x, 4, 1, 3, 2, 1, 0, 31, 19, 0, 0, 12);
        mapIs("UNKNOWN", x, 4, 1, 0, 0);
        int before = x.count(2);
        exchange(x, ACCEPT, 4, 3);
        work("W", x, 4, 1, 3, 0, 1, 1, 31, 27, 0, 0, 12);
        mapIs("ACTIVE", x, 4, 1, 1, code(3, 1, 2));
        mapIs("of this node alone", x, 3, 1, 0, 0);
        C.same("ACCEPTED by 3, and the MAP", x.count(2), before + 2);
    }

    /** Node 0's PROPOSAL for index 1 waits while nodes 1 and 2 agree on it, and may give it up. */
    private static QuorumNodes agreedWithout0(int set, boolean given) {
        QuorumNodes x = new QuorumNodes(3, 2, 2);
        x.propose(0, set, 1, 1);
        loseAll(x);
        x.propose(1, 2, 1, 1);
        exchange(x, PREPARE, 1, 2);
        exchange(x, ACCEPT, 1, 2);
        if (given) {
            x.propose(1, 2, 1, 1);
            x.retire(1);
            exchange(x, COLLECT, 1, 2);
        }
        mapIs("index 1", x, 1, 1, given ? 2 : 1, code(2, 1, 1));
        loseAll(x);
        work("it waits", x, 0, 1, 3, 1, 1, 0, 7, 1, 0, 0, 8);
        x.gossip(1, 0);
        x.deliver(0);
        return x;
    }

    @Says("it is DONE, if its index is not UNKNOWN")
    static void part2_proposal_looks_active() {
        QuorumNodes x = agreedWithout0(4, false);
        work("DONE", x, 0, 1, 3, 0, 1, 0, 7, 1, 0, 0, 8);
        C.same("none to ask again", x.again(0), NONE);
        C.same("nothing is sent", x.count(0), 0);
    }

    @Says("it is DONE, if its index is not UNKNOWN")
    static void part2_proposal_looks_retired() {
        QuorumNodes x = agreedWithout0(4, true);
        mapIs("RETIRED", x, 0, 1, 2, code(2, 1, 1));
        work("DONE", x, 0, 1, 3, 0, 1, 0, 7, 1, 0, 0, 8);
    }

    /** Node 0 hears that index 0 is RETIRED; its PROPOSAL is for index 2. */
    @Says("it is DONE, if its index is not UNKNOWN")
    static void part2_proposal_looks_stillUnknown() {
        QuorumNodes x = pair();
        x.join(2, 0);
        deliverAll(x);
        x.propose(0, 4, 1, 1);
        loseAll(x);
        x.retire(2);
        exchange(x, COLLECT, 2, 0);
        x.deliver(0);
        x.deliver(0);
        mapIs("RETIRED", x, 2, 0, 2);
        x.gossip(2, 0);
        x.deliver(0);
        mapIs("the MAP has changed", x, 0, 0, 2);
        work("its index is UNKNOWN", x, 0, 2, 3, 1, 2, 0, 2, 0, 0, 0, 16);
    }

    @Says("Its result, as soon as it is DONE: 1 if the MAP has C at its index, else 0")
    static void part2_proposal_result_itLooks() {
        C.same("C, ACTIVE", agreedWithout0(2, false).task(0, 4), 1);
        C.same("C, RETIRED", agreedWithout0(2, true).task(0, 4), 1);
        C.same("another one, ACTIVE", agreedWithout0(1, false).task(0, 4), 0);
        C.same("another one, RETIRED", agreedWithout0(1, true).task(0, 4), 0);
    }

    /** The same nodes with another R and W are another configuration. */
    @Says("Its result, as soon as it is DONE: 1 if the MAP has C at its index, else 0")
    static void part2_proposal_result_itIsEnough() {
        QuorumNodes x = new QuorumNodes(2, 2, 2);
        x.propose(0, 3, 1, 2);
        exchange(x, PREPARE, 0, 1);
        pass(x, ACCEPT, 0, 1);
        loseAll(x);
        x.propose(1, 3, 2, 1);
        exchange(x, PREPARE, 1, 0);
        exchange(x, ACCEPT, 1, 0);
        mapIs("that of 0", x, 1, 1, 1, code(3, 1, 2));
        work("not that of 1", x, 1, 2, 3, 0, 1, 0, 3, 3, 0, 0, 9);
        x.gossip(1, 0);
        x.deliver(0);
        work("that of 0", x, 0, 1, 3, 0, 1, 1, 3, 1, 0, 0, 8);
    }

    // ---- RETIREMENT

    @Says("its TARGET is the greatest ACTIVE index, its OLD ones the other ACTIVE ones as it begins; both stay so")
    static void part2_retirement_targetAndOld() {
        QuorumNodes x = alone(1, 6);
        x.retire(0);
        work("TARGET is index 2", x, 0, 3, 4, 2, 2, 0, 6, 0);
        QuorumNodes y = alone(1);
        y.retire(0);
        y.propose(0, 1, 1, 1);
        y.retire(0);
        C.same("index 0 is RETIRED, not OLD", y.task(0, 4), 1);
        mapIs("index 1", y, 0, 1, 2);
    }

    /** Index 3 (node 2) comes and indexes 0 to 2 go while node 0 waits for index 2's node, 1. */
    @Says("both stay so")
    static void part2_retirement_bothStaySo() {
        QuorumNodes x = alone(1, 2);
        x.join(1, 0);
        x.join(2, 0);
        deliverAll(x);
        x.retire(0);
        loseAll(x);
        x.propose(1, 4, 1, 1);
        x.retire(1);
        deliverAll(x);
        mapIs("1 has given up index 2", x, 1, 2, 2);
        int serial = x.node(0, 5);
        x.gossip(1, 0);
        x.deliver(0);
        nodeIs("0 has heard of it", x, 0, 1, 1, 2, 3, 3, serial, 0);
        work("TARGET", x, 0, 3, 4, 2, 2, 0, 2, 0);
        C.same("again", x.again(0), 1);
        int before = x.count(2);
        exchange(x, SPREAD, 0, 1);
        work("two were OLD", x, 0, 3, 4, 0, 2, 2, 2, 2);
        mapIs("index 3 is not touched", x, 0, 3, 1);
        C.same("no write", x.count(2), before);
    }

    @Says("BEST for each object as above")
    static void part2_retirement_bestForEachObject() {
        QuorumNodes x = new QuorumNodes(2, 1, 2);
        x.write(0, 0, 4);
        x.write(1, 0, 5);
        loseAll(x);
        x.crash(1);
        x.restart(1);
        x.write(1, 1, 6);
        loseAll(x);
        x.crash(0);
        x.crash(1);
        x.restart(0);
        x.restart(1);
        x.propose(0, 4, 1, 1);
        exchange(x, ACCEPT, 0, 1);
        loseAll(x);
        x.retire(0);
        exchange(x, COLLECT, 0, 1);
        x.join(2, 3);
        pass(x, SPREAD, 0, 2);
        cellIs("the greatest", x, 2, 0, 1, 1, 5);
        cellIs("of another object", x, 2, 1, 1, 1, 6);
        cellIs("of none", x, 2, 3, 0, 0, 0);
        cellIs("0 is not in TARGET", x, 0, 0, 1, 0, 4);
        cellIs("0 is not in TARGET", x, 0, 1, 0, 0, 0);
    }

    /** Node 1 is in no set, and its own cell is the greatest. */
    @Says("BEST for each object as above")
    static void part2_retirement_bestOfItsOwnToo() {
        QuorumNodes x = alone(4);
        x.join(1, 0);
        x.join(2, 0);
        deliverAll(x);
        x.write(1, 0, 5);
        exchange(x, QUERY, 1, 0);
        exchange(x, QUERY, 1, 2);
        loseAll(x);
        cellIs("its own", x, 1, 0, 1, 1, 5);
        x.crash(1);
        x.restart(1);
        x.retire(1);
        exchange(x, COLLECT, 1, 0);
        pass(x, SPREAD, 1, 2);
        cellIs("BEST", x, 2, 0, 1, 1, 5);
    }

    @Says("ENOUGH: of each OLD one as many as the greater one of its R and W")
    static void part2_retirement_theGreaterOneOfRAndW() {
        for (int more = 0; more < 2; more++) {
            QuorumNodes x = more == 0 ? new QuorumNodes(3, 3, 1) : new QuorumNodes(3, 1, 3);
            x.propose(0, 8, 1, 1);
            deliverAll(x);
            mapIs("index 1", x, 0, 1, 1);
            x.retire(0);
            work("itself", x, 0, 2, 4, 1, 1, 0, 7, 1);
            exchange(x, COLLECT, 0, 1);
            work("one is missing", x, 0, 2, 4, 1, 1, 0, 7, 3);
            exchange(x, COLLECT, 0, 2);
            work("ENOUGH", x, 0, 2, 4, 2, 1, 0, 8, 0);
        }
    }

    @Says("ENOUGH: of each OLD one as many as the greater one of its R and W")
    static void part2_retirement_ofEachOldOne() {
        QuorumNodes x = alone();
        x.propose(0, 6, 1, 2);
        x.join(1, 0);
        x.join(2, 0);
        deliverAll(x);
        x.propose(0, 1, 1, 1);
        deliverAll(x);
        C.same("three are ACTIVE", x.node(0, 4), 2);
        x.retire(0);
        work("index 0 has it", x, 0, 3, 4, 1, 2, 0, 7, 1);
        exchange(x, COLLECT, 0, 2);
        work("index 1 has one of two", x, 0, 3, 4, 1, 2, 0, 7, 5);
        exchange(x, COLLECT, 0, 1);
        work("each has it: DONE, as TARGET is itself", x, 0, 3, 4, 0, 2, 2, 1, 1);
    }

    @Says("each object's cell, by numbers, becomes BEST, if that is greater; 13")
    static void part2_spread_ifThatIsGreater() {
        QuorumNodes x = pair();
        x.write(1, 0, 5);
        deliverAll(x);
        x.write(0, 1, 6);
        deliverAll(x);
        x.write(1, 2, 7);
        exchange(x, QUERY, 1, 0);
        loseAll(x);
        x.retire(0);
        x.twice(0);
        int before = x.count(2);
        x.deliver(0);
        cellIs("the same", x, 1, 0, 1, 1, 5);
        cellIs("the same", x, 1, 1, 1, 0, 6);
        cellIs("BEST is less", x, 1, 2, 1, 1, 7);
        C.same("no write", x.count(2), before);
        letter("13", x, 1, SPREAD_OUT, 1, 0);
    }

    @Says("each object's cell, by numbers, becomes BEST, if that is greater; 13")
    static void part2_spread_byNumbers() {
        for (int n = 1; n <= 4; n++) {
            QuorumNodes x = alone(2);
            x.join(1, 0);
            deliverAll(x);
            for (int object = 0; object < 4; object++) {
                x.write(0, object, 10 + object);
                exchange(x, QUERY, 0, 1);
                loseAll(x);
                x.crash(0);
                x.restart(0);
            }
            x.retire(0);
            x.arm(1, n);
            pass(x, SPREAD, 0, 1);
            C.same("DOWN", x.node(1, 0), 2);
            C.same("no answer", x.count(0), 0);
            for (int object = 0; object < 4; object++) {
                cellIs("by numbers", x, 1, object, object < n - 1 ? 1 : 0);
            }
        }
    }

    @Says("ENOUGH: W of TARGET")
    static void part2_retirement_wOfTarget() {
        QuorumNodes x = alone();
        x.propose(0, 14, 2, 2);
        for (int node = 1; node < 4; node++) {
            x.join(node, 0);
        }
        deliverAll(x);
        x.retire(0);
        exchange(x, SPREAD, 0, 2);
        work("W - 1", x, 0, 2, 4, 2, 1, 0, 14, 4);
        mapIs("ACTIVE still", x, 0, 0, 1);
        exchange(x, SPREAD, 0, 3);
        work("W", x, 0, 2, 4, 0, 1, 1, 14, 12);
        mapIs("RETIRED", x, 0, 0, 2);
    }

    @Says("Then each OLD one, by numbers, that is ACTIVE is RETIRED in the node's MAP (a write each)")
    static void part2_retirement_aWriteEach() {
        for (int n = 1; n <= 3; n++) {
            QuorumNodes x = alone(1, 1, 1);
            x.arm(0, n);
            C.same("retire", x.retire(0), DOWN);
            for (int index = 0; index < 3; index++) {
                mapIs("armed with " + n, x, 0, index, index < n - 1 ? 2 : 1);
            }
            mapIs("TARGET", x, 0, 3, 1);
        }
    }

    /** Node 1 gives up index 0 first; node 0 hears of that while it waits: index 1 alone is a write. */
    @Says("Then each OLD one, by numbers, that is ACTIVE is RETIRED in the node's MAP (a write each)")
    static void part2_retirement_thatIsActive() {
        QuorumNodes x = alone(1);
        x.join(1, 0);
        deliverAll(x);
        x.retire(1);
        exchange(x, COLLECT, 1, 0);
        loseAll(x);
        x.propose(0, 4, 1, 1);
        x.retire(0);
        work("two are OLD", x, 0, 4, 4, 2, 2, 0, 4, 0);
        loseAll(x);
        x.again(1);
        pass(x, SPREAD, 1, 0);
        pass(x, SPREAD_OUT, 0, 1);
        mapIs("1 has given up index 0", x, 1, 0, 2);
        mapIs("not index 1", x, 1, 1, 1);
        loseAll(x);
        x.gossip(1, 0);
        x.deliver(0);
        mapIs("0 has heard of it", x, 0, 0, 2);
        x.join(2, 3);
        x.again(0);
        pass(x, SPREAD, 0, 2);
        int before = x.count(2);
        pass(x, SPREAD_OUT, 2, 0);
        work("DONE", x, 0, 4, 4, 0, 2, 2, 4, 4);
        mapIs("RETIRED by it", x, 0, 1, 2);
        C.same("one write", x.count(2), before + 1);
    }

    @Says("its result is how many were OLD")
    static void part2_retirement_result() {
        QuorumNodes x = alone(1, 1, 1, 1, 1, 1, 1, 1, 1, 1, 1, 1, 1, 1, 1);
        x.retire(0);
        work("the most", x, 0, 16, 4, 0, 15, 15, 1, 1, 0, 0, 0);
        QuorumNodes y = alone(1);
        y.retire(0);
        C.same("the least", y.task(0, 4), 1);
    }

    /** A new set comes in phase 1; it is neither asked nor needed, and no phase begins. */
    @Says("It LOOKS at nothing (but at whether it is ENOUGH, which changes nothing)")
    static void part2_retirement_looksAtNothing() {
        QuorumNodes x = pair();
        x.retire(1);
        loseAll(x);
        work("it waits in phase 1", x, 1, 2, 4, 1, 1, 0, 1, 0);
        x.join(2, 0);
        deliverAll(x);
        x.propose(0, 4, 1, 1);
        exchange(x, PREPARE, 0, 1);
        exchange(x, ACCEPT, 0, 1);
        x.gossip(0, 1);
        x.deliver(0);
        nodeIs("it knows of index 2", x, 1, 1, 1, 0, 0, 2, 1, 0);
        work("as before", x, 1, 2, 4, 1, 1, 0, 1, 0);
        C.same("nothing is sent", x.count(0), 0);
        C.same("again", x.again(1), 1);
        exchange(x, COLLECT, 1, 0);
        work("DONE", x, 1, 2, 4, 0, 1, 1, 2, 2);
        mapIs("index 0", x, 1, 0, 2);
        mapIs("index 1", x, 1, 1, 1);
        mapIs("index 2", x, 1, 2, 1);
    }

    /** The OLD one that node 1 collects is RETIRED by node 0 meanwhile: its phase goes on. */
    @Says("It LOOKS at nothing (but at whether it is ENOUGH, which changes nothing)")
    static void part2_retirement_looksAtNothing_thatIsRetired() {
        QuorumNodes x = pair();
        x.retire(1);
        loseAll(x);
        work("it waits in phase 1", x, 1, 2, 4, 1, 1, 0, 1, 0);
        x.retire(0);
        exchange(x, SPREAD, 0, 1);
        x.gossip(0, 1);
        x.deliver(0);
        mapIs("1 has heard of it", x, 1, 0, 2);
        work("as before", x, 1, 2, 4, 1, 1, 0, 1, 0);
        C.same("the same SERIAL", x.node(1, 5), 1);
        C.same("nothing is sent", x.count(0), 0);
        x.again(1);
        int before = x.count(2);
        exchange(x, COLLECT, 1, 0);
        work("one was OLD", x, 1, 2, 4, 0, 1, 1, 2, 2);
        C.same("no write", x.count(2), before);
    }

    // ---- GOSSIP, JOIN

    @Says("GOSSIP (14) has all objects' TAGS and values: the cells become them, by numbers, where these are greater")
    static void part2_gossip_whereTheseAreGreater() {
        QuorumNodes x = new QuorumNodes(2, 1, 2);
        x.write(0, 0, 4);
        x.write(1, 0, 5);
        loseAll(x);
        x.crash(0);
        x.restart(0);
        x.write(0, 3, 6);
        loseAll(x);
        int before = x.count(2);
        x.gossip(0, 1);
        x.deliver(0);
        cellIs("less", x, 1, 0, 1, 1, 5);
        cellIs("the same", x, 1, 1, 0, 0, 0);
        cellIs("greater", x, 1, 3, 1, 0, 6);
        C.same("one write", x.count(2), before + 1);
        C.same("it is not answered", x.count(0), 0);
        x.gossip(1, 0);
        x.deliver(0);
        cellIs("greater by its writer", x, 0, 0, 1, 1, 5);
    }

    @Says("JOIN (15): answered by a GOSSIP, if one of the MAP's configurations is ACTIVE")
    static void part2_join_answered() {
        QuorumNodes x = alone();
        x.write(0, 2, 8);
        x.join(1, 0);
        x.deliver(0);
        letter("GOSSIP", x, 0, GOSSIP, 0, 1, 0, 0, 0, 0, 0, 0, 0);
        x.deliver(0);
        cellIs("told", x, 1, 2, 1, 0, 8);
        nodeIs("told", x, 1, 1, 1, 0, 0, 0, 0, 0);
    }

    @Says("JOIN (15): answered by a GOSSIP, if one of the MAP's configurations is ACTIVE")
    static void part2_join_notAnswered() {
        QuorumNodes x = alone();
        x.join(1, 2);
        x.join(2, 1);
        C.same("at one without any", x.deliver(0), 1);
        C.same("at one without any", x.deliver(0), 1);
        countIs("no answer", x, 0, 0, 0, 3, 0);
    }
}
