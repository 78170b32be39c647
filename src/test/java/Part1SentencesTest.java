/** For each sentence of the terms' PART 1 that names a boundary a test of its own. */
public final class Part1SentencesTest extends Runs {
    public static void main(String[] args) throws Exception {
        Sentences.run(Part1SentencesTest.class, args, C);
    }

    /** Nodes 0 and 1 know index 0 (node 0) and index 1 (node 1). */
    private static QuorumNodes pair() {
        QuorumNodes x = alone(2);
        x.join(1, 0);
        deliverAll(x);
        return x;
    }

    // ---- nodes, objects, configurations

    @Says("NODES 0 to 7 are ABSENT, UP or DOWN; OBJECTS 0 to 3")
    static void part1_nodes0To7_objects0To3() {
        QuorumNodes x = new QuorumNodes(8, 8, 1);
        x.write(7, 3, 5);
        for (int node = 0; node < 7; node++) {
            exchange(x, QUERY, 7, node);
        }
        work("DONE", x, 7, 1, 2, 0, 3, 5, 255, 128, 1, 7, 0);
        pass(x, STORE, 7, 0);
        cellIs("the last object at the first node", x, 0, 3, 1, 7, 5);
        cellIs("the first object", x, 0, 0, 0, 0, 0);
    }

    @Says("A CONFIGURATION is a set of nodes (at least one) with two numbers R and W")
    static void part1_aConfiguration_atLeastOneNode() {
        QuorumNodes x = alone();
        C.same("no node", x.propose(0, 0, 1, 1), NONE);
        C.same("one node", x.propose(0, 128, 1, 1), 1);
    }

    @Says("each 1 to as many as they are, that together are more than these")
    static void part1_aConfiguration_rAndW() {
        for (int size = 1; size <= 8; size++) {
            int set = (1 << size) - 1;
            for (int r = 0; r <= size + 1; r++) {
                for (int w = 0; w <= size + 1; w++) {
                    boolean is = r >= 1 && r <= size && w >= 1 && w <= size && r + w > size;
                    C.same("set " + set + ", R " + r + ", W " + w, alone().propose(0, set, r, w), is ? 1 : NONE);
                }
            }
        }
    }

    @Says("as a number: its set (bit n for node n) + 256 * R + 4096 * W")
    static void part1_aConfiguration_asANumber() {
        QuorumNodes x = alone();
        x.propose(0, 129, 2, 1);
        mapIs("nodes 0 and 7", x, 0, 1, 1, 129 + 512 + 4096);
        QuorumNodes y = alone();
        y.propose(0, 255, 8, 8);
        mapIs("the greatest number", y, 0, 1, 1, 255 + 2048 + 32768);
    }

    // ---- cells

    @Says("CELLS of a node, which stay when it goes down")
    static void part1_cellsStayWhenItGoesDown() {
        QuorumNodes x = alone(1);
        x.write(0, 2, 9);
        x.retire(0);
        for (int times = 0; times < 2; times++) {
            nodeIs("INCARNATION, ROUND", x, 0, 1 + times, 1, 1, 1, 1);
            cellIs("TAG and value", x, 0, 2, 1, 0, 9);
            mapIs("MAP", x, 0, 0, 2, code(1, 1, 1), 0, 0, 0);
            mapIs("PROMISED and ACCEPTED", x, 0, 1, 1, code(1, 1, 1), 8, 8, code(1, 1, 1));
            x.crash(0);
        }
        x.restart(0);
        nodeIs("INCARNATION alone has changed", x, 0, 1, 2, 1, 1, 1);
        cellIs("TAG and value", x, 0, 2, 1, 0, 9);
        mapIs("PROMISED and ACCEPTED", x, 0, 1, 1, code(1, 1, 1), 8, 8, code(1, 1, 1));
    }

    @Says("its INCARNATION (1 at first) and its ROUND (0); of each object a TAG (a number and a writer; 0, 0) and a value (0)")
    static void part1_cellsAtFirst() {
        QuorumNodes x = new QuorumNodes(4, 2, 3);
        for (int node = 0; node < 8; node++) {
            C.same("INCARNATION", x.node(node, 1), 1);
            C.same("ROUND", x.node(node, 2), 0);
            for (int object = 0; object < 4; object++) {
                cellIs("at first", x, node, object, 0, 0, 0);
            }
        }
    }

    @Says("of each INDEX 0 to 15 whether its configuration is UNKNOWN (0), ACTIVE (1) or RETIRED (2)")
    static void part1_index0To15_theFirst() {
        QuorumNodes x = alone(2);
        mapIs("ACTIVE", x, 0, 0, 1, code(1, 1, 1));
        x.join(1, 0);
        deliverAll(x);
        x.retire(1);
        deliverAll(x);
        mapIs("RETIRED", x, 1, 0, 2, code(1, 1, 1));
        x.gossip(1, 0);
        deliverAll(x);
        mapIs("RETIRED by a message", x, 0, 0, 2, code(1, 1, 1));
        x.read(0, 0);
        C.same("it is asked no more", x.task(0, 5), 2);
    }

    /** Nodes 0 and 1 agree on index 15, and a third one hears of it. */
    @Says("of each INDEX 0 to 15 whether its configuration is UNKNOWN (0), ACTIVE (1) or RETIRED (2)")
    static void part1_index0To15_theLast() {
        QuorumNodes x = alone(1, 1, 1, 1, 1, 1, 1, 1, 1, 1, 1, 1, 1, 3);
        x.join(1, 0);
        deliverAll(x);
        nodeIs("14 is the greatest one", x, 1, 1, 1, 0, 0, 14);
        x.propose(1, 4, 1, 1);
        letter("PREPARE", x, 0, PREPARE, 1, 0, 1, 1, 15, 9, 0, 0, 14);
        deliverAll(x);
        int c = code(4, 1, 1);
        mapIs("agreed", x, 1, 15, 1, c, 9, 9, c);
        mapIs("ACCEPTED", x, 0, 15, 0, 0, 9, 9, c);
        x.gossip(1, 2);
        x.join(2, 3);
        x.deliver(0);
        mapIs("told", x, 2, 15, 1, c, 0, 0, 0);
        x.write(2, 0, 5);
        C.same("all sets are asked", x.task(2, 5), 7);
        deliverAll(x);
        C.same("DONE", x.task(2, 2), 0);
        x.retire(2);
        deliverAll(x);
        work("15 are OLD", x, 2, 17, 4, 0, 15, 15, 4, 4, 0, 0, 0);
        nodeIs("15 is left", x, 2, 1, 1, 0, 15, 15);
    }

    @Says("of each index from 1 on PROMISED (a ballot, 0), ACCEPTED (a ballot, 0) and the configuration that was accepted (0)")
    static void part1_promisedAndAcceptedAtFirst() {
        QuorumNodes x = new QuorumNodes(8, 4, 5);
        for (int index = 0; index < 16; index++) {
            mapIs("at first", x, 7, index, index == 0 ? 1 : 0, index == 0 ? code(255, 4, 5) : 0, 0, 0, 0);
        }
    }

    @Says("A TAG is greater by its number, then by its writer")
    static void part1_aTagIsGreaterByItsNumber() {
        QuorumNodes x = new QuorumNodes(2, 1, 2);
        x.write(1, 0, 5);
        x.twice(find(x, STORE, 1, 0));
        pass(x, STORE, 1, 0);
        cellIs("(1, 1)", x, 0, 0, 1, 1, 5);
        x.write(0, 0, 6);
        cellIs("(2, 0)", x, 0, 0, 2, 0, 6);
        pass(x, STORE, 0, 1);
        cellIs("(2, 0) is greater than (1, 1)", x, 1, 0, 2, 0, 6);
        pass(x, STORE, 1, 0);
        cellIs("(1, 1) is less than (2, 0)", x, 0, 0, 2, 0, 6);
    }

    @Says("A TAG is greater by its number, then by its writer")
    static void part1_aTagIsGreaterThenByItsWriter() {
        QuorumNodes x = new QuorumNodes(2, 1, 2);
        x.write(0, 0, 6);
        x.write(1, 0, 5);
        pass(x, STORE, 0, 1);
        cellIs("(1, 0) is less than (1, 1)", x, 1, 0, 1, 1, 5);
        pass(x, STORE, 1, 0);
        cellIs("(1, 1) is greater than (1, 0)", x, 0, 0, 1, 1, 5);
    }

    @Says("A BALLOT is 8 * a round + a node")
    static void part1_aBallot() {
        QuorumNodes x = new QuorumNodes(8, 8, 1);
        x.propose(7, 1, 1, 1);
        C.same("of the last node", x.task(7, 9), 15);
        x.propose(0, 1, 1, 1);
        C.same("of the first node", x.task(0, 9), 8);
        x.again(7);
        C.same("the next round", x.task(7, 9), 23);
        mapIs("PROMISED", x, 7, 1, 0, 0, 23);
    }

    // ---- writes

    private static void writesAre(String name, QuorumNodes x, int before, int more) {
        C.same(name, x.count(2), before + more);
    }

    @Says("A WRITE is one change of a node's cells: of INCARNATION")
    static void part1_aWrite_ofIncarnation() {
        QuorumNodes x = alone();
        x.crash(0);
        writesAre("to go down is none", x, 0, 0);
        x.restart(0);
        writesAre("INCARNATION", x, 0, 1);
    }

    /** Node 0 is not in the set that it asks: nothing else is written. */
    @Says("of ROUND")
    static void part1_aWrite_ofRound() {
        QuorumNodes x = alone(2);
        int before = x.count(2);
        x.arm(0, 2);
        x.propose(0, 1, 1, 1);
        writesAre("ROUND", x, before, 1);
        nodeIs("one is left", x, 0, 1, 1, 2, 0, 1, 3, 1);
    }

    @Says("of one object's TAG and value")
    static void part1_aWrite_ofOneObjectsTagAndValue() {
        QuorumNodes x = alone();
        x.write(0, 0, 5);
        writesAre("TAG and value at once", x, 0, 1);
        x.write(0, 1, 5);
        writesAre("another object", x, 0, 2);
        x.join(1, 0);
        x.deliver(0);
        x.arm(1, 4);
        x.deliver(0);
        writesAre("the MAP and two objects, a write each", x, 2, 3);
        C.same("one is left", x.node(1, 6), 1);
    }

    @Says("of the MAP (by a message all its indexes at once, by the node's own task one)")
    static void part1_aWrite_ofTheMap_byAMessageAllAtOnce() {
        QuorumNodes x = alone(1, 1, 1);
        int before = x.count(2);
        x.join(1, 0);
        x.deliver(0);
        x.arm(1, 2);
        x.deliver(0);
        nodeIs("four indexes", x, 1, 1, 1, 0, 0, 3, 0, 1);
        writesAre("one write", x, before, 1);
    }

    @Says("of the MAP (by a message all its indexes at once, by the node's own task one)")
    static void part1_aWrite_ofTheMap_byItsOwnTaskOne() {
        QuorumNodes x = alone(1, 1, 1);
        int before = x.count(2);
        x.arm(0, 4);
        x.retire(0);
        writesAre("three OLD ones, three writes", x, before, 3);
        C.same("one is left", x.node(0, 6), 1);
    }

    @Says("of what one index has PROMISED and ACCEPTED")
    static void part1_aWrite_ofPromisedAndAccepted() {
        QuorumNodes x = new QuorumNodes(2, 1, 2);
        x.propose(0, 1, 1, 1);
        writesAre("ROUND, PROMISED, ACCEPTED", x, 0, 3);
        x.arm(1, 3);
        pass(x, PREPARE, 0, 1);
        writesAre("PROMISED", x, 3, 1);
        pass(x, ACCEPT, 0, 1);
        writesAre("ACCEPTED", x, 4, 1);
        C.same("one is left", x.node(1, 6), 1);
        QuorumNodes y = new QuorumNodes(2, 1, 2);
        y.propose(0, 1, 1, 1);
        pass(y, ACCEPT, 0, 1);
        mapIs("both", y, 1, 1, 0, 0, 8, 8, code(1, 1, 1));
        writesAre("both at once", y, 3, 1);
    }

    private static void noWrite(String name, QuorumNodes x, int node, int message) {
        int before = x.count(2);
        x.arm(node, 1);
        C.same(name + " arrives", x.deliver(message), 1);
        C.same(name + ": UP", x.node(node, 0), 1);
        C.same(name + ": armed still", x.node(node, 6), 1);
        C.same(name + ": writes", x.count(2), before);
        x.arm(node, 0);
    }

    @Says("(What is as it should be already is no write.)")
    static void part1_noWrite_aCell() {
        QuorumNodes x = new QuorumNodes(2, 1, 2);
        x.write(0, 0, 5);
        x.twice(1);
        x.deliver(1);
        cellIs("stored", x, 1, 0, 1, 0, 5);
        noWrite("the same STORE", x, 1, find(x, STORE, 0, 1));
        C.same("it is answered all the same", x.message(x.count(0) - 1, 0), STORED);
        x.gossip(0, 1);
        noWrite("a GOSSIP of the same", x, 1, x.count(0) - 1);
    }

    @Says("(What is as it should be already is no write.)")
    static void part1_noWrite_theMap() {
        QuorumNodes x = pair();
        x.gossip(0, 1);
        noWrite("the same MAP", x, 1, 0);
        x.gossip(0, 1);
        x.propose(1, 2, 1, 1);
        noWrite("a MAP that is behind", x, 1, 0);
        nodeIs("as before", x, 1, 1, 1, 1, 0, 2);
    }

    @Says("(What is as it should be already is no write.)")
    static void part1_noWrite_accepted() {
        QuorumNodes x = new QuorumNodes(2, 1, 2);
        x.propose(0, 1, 1, 1);
        x.twice(1);
        x.deliver(1);
        noWrite("the same ACCEPT", x, 1, find(x, ACCEPT, 0, 1));
        C.same("it is answered all the same", x.message(x.count(0) - 1, 0), ACCEPTED);
        noWrite("a PREPARE that is REFUSED", x, 1, find(x, PREPARE, 0, 1));
        C.same("it is answered all the same", x.message(x.count(0) - 1, 0), REFUSED);
    }

    /** REFUSED with a ballot of the ROUND that the node has already. */
    @Says("(What is as it should be already is no write.)")
    static void part1_noWrite_round() {
        QuorumNodes x = new QuorumNodes(3, 3, 1);
        x.propose(2, 1, 1, 1);
        pass(x, PREPARE, 2, 1);
        loseAll(x);
        x.propose(0, 1, 1, 1);
        pass(x, PREPARE, 0, 1);
        letter("REFUSED", x, 1, REFUSED, 1, 0, 1, 1, 1, 10, 0, 0, 0);
        noWrite("REFUSED of the same round", x, 0, 1);
        C.same("ROUND", x.node(0, 2), 1);
    }

    @Says("(What is as it should be already is no write.)")
    static void part1_noWrite_itsOwnCell() {
        QuorumNodes x = alone();
        x.write(0, 0, 5);
        x.arm(0, 1);
        C.same("a READ of what it has", x.read(0, 0), 2);
        nodeIs("UP, and armed still", x, 0, 1, 1, 0, 0, 0, 4, 1);
        writesAre("none", x, 1, 0);
    }

    // ---- armed

    @Says("A node that is ARMED with n goes DOWN instead of its n-th write from then on")
    static void part1_armed_insteadOfItsNthWrite() {
        for (int n = 1; n <= 3; n++) {
            QuorumNodes x = alone();
            x.arm(0, n);
            for (int i = 1; i < n; i++) {
                C.same("write", x.write(0, 0, i), i);
            }
            C.same("the " + n + "th", x.write(0, 0, 77), DOWN);
            cellIs("those ahead of it", x, 0, 0, n - 1, 0, n - 1);
            countIs("writes", x, 0, n, n - 1, 0, 0);
        }
    }

    @Says("A node that is ARMED with n goes DOWN instead of its n-th write from then on")
    static void part1_armed_fromThenOn() {
        QuorumNodes x = alone();
        x.write(0, 0, 1);
        x.arm(0, 2);
        C.same("the first from then on", x.write(0, 0, 2), 2);
        x.arm(0, 2);
        C.same("armed anew", x.node(0, 6), 2);
        C.same("the first from then on", x.write(0, 0, 3), 3);
        C.same("the second", x.write(0, 0, 4), DOWN);
        cellIs("the last one that it wrote", x, 0, 0, 3, 0, 3);
    }

    @Says("A node that is ARMED with n goes DOWN instead of its n-th write from then on")
    static void part1_armed_itsOwnWritesAlone() {
        QuorumNodes x = new QuorumNodes(2, 1, 2);
        x.arm(1, 1);
        x.write(0, 0, 5);
        C.same("0 has written", x.count(2), 1);
        nodeIs("1 has not", x, 1, 1, 1, 0, 0, 0, 0, 1);
    }

    /** The MAP is its first write: the QUERY is not answered. */
    @Says("and all that it would do behind it is not done")
    static void part1_armed_notDone_whatTheMessageAsks() {
        QuorumNodes x = alone(2);
        x.read(0, 0);
        x.join(1, 2);
        x.arm(1, 1);
        C.same("QUERY", x.deliver(0), 1);
        nodeIs("DOWN, and it knows of none", x, 1, 2, 1, 0, NONE, NONE, 0, 0);
        C.same("JOIN alone", x.count(0), 1);
        letter("JOIN", x, 0, JOIN, 1, 2);
    }

    @Says("and all that it would do behind it is not done")
    static void part1_armed_notDone_theAnswer() {
        QuorumNodes x = new QuorumNodes(2, 1, 2);
        x.write(0, 0, 5);
        x.arm(1, 1);
        pass(x, STORE, 0, 1);
        cellIs("not stored", x, 1, 0, 0, 0, 0);
        C.same("QUERY alone", x.count(0), 1);
        QuorumNodes y = new QuorumNodes(2, 1, 2);
        y.propose(0, 1, 1, 1);
        y.arm(1, 1);
        pass(y, PREPARE, 0, 1);
        mapIs("not PROMISED", y, 1, 1, 0, 0, 0, 0, 0);
        C.same("ACCEPT alone", y.count(0), 1);
        y.restart(1);
        y.arm(1, 1);
        pass(y, ACCEPT, 0, 1);
        mapIs("not ACCEPTED", y, 1, 1, 0, 0, 0, 0, 0);
        C.same("none", y.count(0), 0);
    }

    @Says("and all that it would do behind it is not done")
    static void part1_armed_notDone_theOtherObjects() {
        for (int n = 1; n <= 4; n++) {
            QuorumNodes x = alone();
            for (int object = 0; object < 4; object++) {
                x.write(0, object, 10 + object);
            }
            x.join(1, 0);
            x.deliver(0);
            x.arm(1, n + 1);
            x.deliver(0);
            nodeIs("DOWN, with the MAP", x, 1, 2, 1, 0, 0, 0);
            for (int object = 0; object < 4; object++) {
                cellIs("by numbers", x, 1, object, object < n - 1 ? 1 : 0, 0, object < n - 1 ? 10 + object : 0);
            }
        }
    }

    @Says("and all that it would do behind it is not done")
    static void part1_armed_notDone_theRequests() {
        QuorumNodes x = new QuorumNodes(2, 1, 2);
        x.arm(0, 1);
        C.same("write", x.write(0, 0, 5), DOWN);
        C.same("QUERY, no STORE", x.count(0), 1);
        letter("QUERY", x, 0, QUERY, 0, 1);
        QuorumNodes y = new QuorumNodes(2, 1, 2);
        y.arm(0, 1);
        C.same("propose", y.propose(0, 1, 1, 1), DOWN);
        C.same("no PREPARE behind ROUND", y.count(0), 0);
        QuorumNodes z = new QuorumNodes(4, 2, 3);
        z.arm(2, 2);
        C.same("propose", z.propose(2, 1, 1, 1), DOWN);
        C.same("PREPARE to those ahead of itself alone", z.count(0), 2);
        letter("to 0", z, 0, PREPARE, 2, 0);
        letter("to 1", z, 1, PREPARE, 2, 1);
    }

    /** The READ of node 0 would ask node 2 as it LOOKS, but the MAP is not written. */
    @Says("and all that it would do behind it is not done")
    static void part1_armed_notDone_itLooksNoMore() {
        QuorumNodes x = pair();
        x.read(0, 0);
        loseAll(x);
        x.propose(1, 4, 1, 1);
        x.gossip(1, 0);
        x.arm(0, 1);
        C.same("GOSSIP", x.deliver(0), 1);
        nodeIs("DOWN, index 2 is UNKNOWN", x, 0, 2, 1, 1, 0, 1, 0, 0);
        C.same("no QUERY to 2", x.count(0), 0);
    }

    @Says("A node that goes DOWN has no task and is not armed")
    static void part1_down_hasNoTaskAndIsNotArmed() {
        QuorumNodes x = new QuorumNodes(2, 2, 2);
        x.write(0, 0, 5);
        x.arm(0, 50);
        x.crash(0);
        nodeIs("DOWN by crash", x, 0, 2, 1, 0, 0, 0, 0, 0);
        x.restart(0);
        C.same("no task", x.task(0, 0), NONE);
        C.same("not armed", x.node(0, 6), 0);
        C.same("a new one may begin", x.propose(0, 1, 1, 1), 2);
        x.arm(0, 1);
        C.same("again", x.again(0), DOWN);
        x.restart(0);
        C.same("no task", x.task(0, 0), NONE);
        C.same("not armed", x.node(0, 6), 0);
        C.same("it may write", x.propose(0, 1, 1, 1), 3);
    }

    @Says("At first nodes 0 to n - 1 are UP, the others ABSENT")
    static void part1_atFirst_upAndAbsent() {
        for (int n = 1; n <= 8; n++) {
            QuorumNodes x = new QuorumNodes(n, 1, n);
            for (int node = 0; node < 8; node++) {
                C.same("node " + node + " of " + n, x.node(node, 0), node < n ? 1 : 0);
            }
            C.same("UP", x.count(3), n);
        }
    }

    @Says("the first ones have index 0 ACTIVE: these n nodes, with R and W as the constructor has them; all else is UNKNOWN")
    static void part1_atFirst_index0Active() {
        QuorumNodes x = new QuorumNodes(5, 4, 3);
        for (int node = 0; node < 8; node++) {
            boolean in = node < 5;
            mapIs("node " + node, x, node, 0, in ? 1 : 0, in ? code(31, 4, 3) : 0);
            for (int index = 1; index < 16; index++) {
                mapIs("node " + node, x, node, index, 0, 0);
            }
        }
    }

    // ---- messages

    @Says("MESSAGES under way are a list in the order in which they were sent")
    static void part1_messages_inTheOrderInWhichTheyWereSent() {
        QuorumNodes x = new QuorumNodes(3, 3, 3);
        x.read(1, 0);
        x.gossip(2, 0);
        x.read(0, 0);
        letter("1", x, 0, QUERY, 1, 0);
        letter("2", x, 1, QUERY, 1, 2);
        letter("3", x, 2, GOSSIP, 2, 0);
        letter("4", x, 3, QUERY, 0, 1);
        letter("5", x, 4, QUERY, 0, 2);
        x.deliver(1);
        letter("an answer is the last one", x, 4, ANSWER, 2, 1);
    }

    @Says("what would be sent while 120 are is lost")
    static void part1_messages_120_whatIsSentByACall() {
        QuorumNodes x = new QuorumNodes(3, 2, 2);
        fill(x, 0, 1, 119);
        x.gossip(2, 0);
        countIs("the 120th is not lost", x, 120, 0, 0, 3, 0);
        letter("it is the last one", x, 119, GOSSIP, 2, 0);
        x.gossip(2, 1);
        countIs("the 121st is", x, 120, 0, 0, 3, 1);
        letter("the last one is as before", x, 119, GOSSIP, 2, 0);
    }

    @Says("what would be sent while 120 are is lost")
    static void part1_messages_120_someOfTheRequests() {
        QuorumNodes x = new QuorumNodes(4, 4, 1);
        fill(x, 0, 1, 118);
        C.same("read", x.read(0, 0), 1);
        countIs("one of three is lost", x, 120, 1, 0, 4, 1);
        letter("to 1", x, 118, QUERY, 0, 1);
        letter("to 2", x, 119, QUERY, 0, 2);
        work("3 is ASKED all the same", x, 0, 1, 1, 1, 0, 0, 15, 1);
    }

    /** Room for one is made as a message arrives; the QUERY by which node 0 LOOKS takes it. */
    @Says("what would be sent while 120 are is lost")
    static void part1_messages_120_theAnswer() {
        QuorumNodes x = new QuorumNodes(2, 2, 1);
        x.read(0, 0);
        loseAll(x);
        x.propose(1, 12, 2, 1);
        pass(x, PREPARE, 1, 0);
        x.deliver(0);
        mapIs("agreed", x, 1, 1, 1, code(12, 2, 1));
        loseAll(x);
        x.read(1, 0);
        letter("QUERY with the new MAP", x, 0, QUERY, 1, 0, 1, 3, 0, 0, 0, 0, 1);
        fill(x, 1, 2, 120);
        C.same("QUERY", x.deliver(0), 1);
        letter("QUERY to 2", x, 119, QUERY, 0, 2);
        countIs("QUERY to 3 and the answer are lost", x, 120, 3, x.count(2), 2, 2);
    }

    @Says("Each has a kind, from, to, and the sender's MAP as it is then")
    static void part1_messages_theMapAsItIsThen() {
        QuorumNodes x = alone();
        x.gossip(0, 1);
        x.propose(0, 1, 1, 1);
        x.gossip(0, 1);
        x.retire(0);
        x.gossip(0, 1);
        letter("the first", x, 0, GOSSIP, 0, 1, 0, 0, 0, 0, 0, 0, 0);
        letter("the second", x, 1, GOSSIP, 0, 1, 0, 0, 0, 0, 0, 0, 1);
        x.join(1, 2);
        x.deliver(0);
        nodeIs("index 0", x, 1, 1, 1, 0, 0, 0);
        x.deliver(0);
        nodeIs("and index 1", x, 1, 1, 1, 0, 0, 1);
        x.deliver(0);
        nodeIs("index 0 is RETIRED", x, 1, 1, 1, 0, 1, 1);
    }

    @Says("Each has a kind, from, to, and the sender's MAP as it is then")
    static void part1_messages_whatItTellsAsItIsThen() {
        QuorumNodes x = alone();
        x.write(0, 0, 5);
        x.gossip(0, 1);
        x.write(0, 0, 6);
        x.join(1, 2);
        x.deliver(0);
        cellIs("the value of then", x, 1, 0, 1, 0, 5);
    }

    @Says("A MESSAGE ARRIVES (it is taken out of the list; at a node that is not UP it is lost)")
    static void part1_arrives_takenOutOfTheList() {
        QuorumNodes x = new QuorumNodes(2, 2, 2);
        x.read(0, 0);
        fill(x, 0, 1, 120);
        x.deliver(0);
        countIs("there is room for its answer", x, 120, 1, 0, 2, 0);
        letter("the answer", x, 119, ANSWER, 1, 0);
    }

    @Says("A MESSAGE ARRIVES (it is taken out of the list; at a node that is not UP it is lost)")
    static void part1_arrives_lostAtANodeThatIsNotUp() {
        QuorumNodes x = alone();
        x.write(0, 0, 5);
        x.gossip(0, 1);
        x.gossip(0, 1);
        int before = x.count(2);
        C.same("ABSENT", x.deliver(0), 0);
        x.join(1, 2);
        x.crash(1);
        C.same("DOWN", x.deliver(0), 0);
        writesAre("no write", x, before, 0);
        nodeIs("it knows of none", x, 1, 2, 1, 0, NONE, NONE);
        cellIs("nor of this", x, 1, 0, 0, 0, 0);
        x.restart(1);
        countIs("JOIN alone is under way", x, 1, 1, before + 1, 2, 0);
    }

    @Says("1. at each index for which it has a greater state (0, 1, 2) the node's MAP becomes as the message's (one write for all of them)")
    static void part1_arrives_aGreaterState() {
        QuorumNodes x = alone(1);
        x.join(1, 0);
        x.join(2, 3);
        deliverAll(x);
        mapIs("from 0 to 1", x, 1, 0, 1, code(1, 1, 1));
        mapIs("from 0 to 1", x, 1, 1, 1, code(1, 1, 1));
        x.propose(0, 2, 1, 1);
        x.retire(0);
        deliverAll(x);
        C.same("retired", x.task(0, 4), 2);
        int before = x.count(2);
        x.gossip(0, 1);
        x.deliver(0);
        mapIs("from 1 to 2", x, 1, 0, 2, code(1, 1, 1));
        mapIs("from 1 to 2", x, 1, 1, 2, code(1, 1, 1));
        writesAre("one write", x, before, 1);
        x.gossip(0, 2);
        x.deliver(0);
        mapIs("from 0 to 2", x, 2, 0, 2, code(1, 1, 1));
        mapIs("from 0 to 2", x, 2, 1, 2, code(1, 1, 1));
        mapIs("from 0 to 1", x, 2, 2, 1, code(2, 1, 1));
        writesAre("one write for all of them", x, before, 2);
    }

    @Says("1. at each index for which it has a greater state (0, 1, 2) the node's MAP becomes as the message's (one write for all of them)")
    static void part1_arrives_notALesserState() {
        QuorumNodes x = alone(1);
        x.gossip(0, 1);
        x.join(1, 2);
        x.retire(0);
        x.gossip(0, 1);
        C.same("the later one first", x.deliver(2), 1);
        mapIs("RETIRED", x, 1, 0, 2, code(1, 1, 1));
        int before = x.count(2);
        C.same("then the other one", x.deliver(0), 1);
        mapIs("RETIRED still", x, 1, 0, 2, code(1, 1, 1));
        writesAre("no write", x, before, 0);
        x.lose(0);
        x.join(2, 0);
        C.same("one that knows of none", x.deliver(0), 1);
        mapIs("RETIRED still", x, 0, 0, 2, code(1, 1, 1));
        mapIs("ACTIVE still", x, 0, 1, 1, code(1, 1, 1));
    }

    /** Of one message index 0 is less than what node 1 has, index 2 is greater. */
    @Says("1. at each index for which it has a greater state (0, 1, 2) the node's MAP becomes as the message's (one write for all of them)")
    static void part1_arrives_oneGreaterAndOneLess() {
        QuorumNodes x = pair();
        x.retire(1);
        pass(x, COLLECT, 1, 0);
        x.propose(0, 4, 1, 1);
        exchange(x, PREPARE, 0, 1);
        exchange(x, ACCEPT, 0, 1);
        x.gossip(0, 1);
        pass(x, COLLECTED, 0, 1);
        mapIs("RETIRED", x, 1, 0, 2, code(1, 1, 1));
        mapIs("UNKNOWN", x, 1, 2, 0, 0);
        int before = x.count(2);
        pass(x, GOSSIP, 0, 1);
        mapIs("it stays", x, 1, 0, 2, code(1, 1, 1));
        mapIs("the same", x, 1, 1, 1, code(2, 1, 1));
        mapIs("it becomes so", x, 1, 2, 1, code(4, 1, 1));
        writesAre("one write", x, before, 1);
    }

    @Says("2. If one has changed, the node's TASK LOOKS")
    static void part1_arrives_oneThatIsDoneDoesNotLook() {
        QuorumNodes x = pair();
        x.read(0, 0);
        exchange(x, QUERY, 0, 1);
        exchange(x, STORE, 0, 1);
        work("DONE", x, 0, 2, 1, 0, 0, 0, 3, 3);
        x.propose(1, 4, 1, 1);
        x.gossip(1, 0);
        x.deliver(0);
        C.same("the MAP has changed", x.node(0, 4), 2);
        C.same("nothing is sent", x.count(0), 0);
        work("as before", x, 0, 2, 1, 0, 0, 0, 3, 3);
    }

    @Says("2. If one has changed, the node's TASK LOOKS")
    static void part1_arrives_theTaskLooks() {
        QuorumNodes x = pair();
        x.read(0, 0);
        loseAll(x);
        x.gossip(1, 0);
        x.deliver(0);
        C.same("none has changed", x.count(0), 0);
        x.propose(1, 4, 1, 1);
        x.gossip(1, 0);
        x.deliver(0);
        C.same("one has: 2 is asked", x.count(0), 1);
        letter("QUERY", x, 0, QUERY, 0, 2, 1, 3, 0, 0, 0, 0, 2);
    }

    /** The MAP ahead of all, then the LOOK, then the answer, which has the new MAP. */
    @Says("3. What the message asks is done, and answered to its sender")
    static void part1_arrives_inThisOrder() {
        QuorumNodes x = pair();
        x.read(0, 0);
        loseAll(x);
        x.propose(1, 4, 1, 1);
        x.write(1, 0, 5);
        letter("QUERY", x, 0, QUERY, 1, 0, 1, 3, 0, 0, 0, 0, 2);
        loseAll(x);
        x.again(1);
        x.deliver(0);
        letter("to 2, from 1", x, 0, QUERY, 1, 2);
        letter("to 2, from 0, as it LOOKS", x, 1, QUERY, 0, 2, 1, 3, 0, 0, 0, 0, 2);
        letter("the answer", x, 2, ANSWER, 0, 1, 1, 3, 0, 0, 0, 0, 2);
    }

    /** Whether the sender is UP by now does not matter. */
    @Says("3. What the message asks is done, and answered to its sender")
    static void part1_arrives_answeredThoughTheSenderIsDown() {
        QuorumNodes x = new QuorumNodes(2, 2, 2);
        x.read(0, 0);
        x.crash(0);
        C.same("QUERY", x.deliver(0), 1);
        letter("the answer", x, 0, ANSWER, 1, 0, 1, 1);
        C.same("it is lost there", x.deliver(0), 0);
    }
}
