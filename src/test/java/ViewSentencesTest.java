/** For each sentence of promises 15 to 20 that names a boundary a test of its own. */
public final class ViewSentencesTest extends Runs {
    public static void main(String[] args) throws Exception {
        Sentences.run(ViewSentencesTest.class, args, C);
    }

    private static int[] outside(int most) {
        return new int[] {-1, most + 1, LEAST, MOST};
    }

    // ---- promise 15

    @Says("0 whether it is ABSENT (0), UP (1), DOWN (2)")
    static void promise15_absentUpDown() {
        QuorumNodes x = new QuorumNodes(7, 1, 7);
        C.same("ABSENT", x.node(7, 0), 0);
        C.same("UP", x.node(6, 0), 1);
        x.crash(6);
        C.same("DOWN", x.node(6, 0), 2);
        x.restart(6);
        C.same("UP again", x.node(6, 0), 1);
        x.join(7, 0);
        C.same("UP by join", x.node(7, 0), 1);
    }

    @Says("1 INCARNATION, 2 ROUND")
    static void promise15_incarnationAndRound() {
        QuorumNodes x = alone();
        nodeIs("at first", x, 0, 1, 1, 0);
        nodeIs("of one that is ABSENT", x, 7, 0, 1, 0);
        x.propose(0, 1, 1, 1);
        nodeIs("ROUND", x, 0, 1, 1, 1);
        x.crash(0);
        nodeIs("of one that is DOWN", x, 0, 2, 1, 1);
        x.restart(0);
        nodeIs("INCARNATION", x, 0, 1, 2, 1);
    }

    @Says("3 the least, 4 the greatest ACTIVE index (NONE)")
    static void promise15_theLeastAndTheGreatest_none() {
        QuorumNodes x = alone();
        nodeIs("ABSENT", x, 7, 0, 1, 0, NONE, NONE);
        x.join(7, 0);
        nodeIs("UP", x, 7, 1, 1, 0, NONE, NONE);
        x.crash(7);
        nodeIs("DOWN", x, 7, 2, 1, 0, NONE, NONE);
    }

    @Says("3 the least, 4 the greatest ACTIVE index (NONE)")
    static void promise15_theLeastAndTheGreatest_0And15() {
        QuorumNodes x = alone();
        nodeIs("0 is both", x, 0, 1, 1, 0, 0, 0);
        for (int index = 1; index < 16; index++) {
            x.propose(0, 1, 1, 1);
            nodeIs("one more", x, 0, 1, 1, index, 0, index);
        }
        x.retire(0);
        nodeIs("15 is both", x, 0, 1, 1, 15, 15, 15);
        x.crash(0);
        nodeIs("of one that is DOWN, too", x, 0, 2, 1, 15, 15, 15);
    }

    @Says("5 SERIAL")
    static void promise15_serial() {
        QuorumNodes x = alone();
        C.same("0 at first", x.node(0, 5), 0);
        x.read(0, 0);
        C.same("two phases", x.node(0, 5), 2);
        x.write(0, 0, 1);
        C.same("two more, of another task", x.node(0, 5), 4);
        x.crash(0);
        C.same("forgotten", x.node(0, 5), 0);
        x.restart(0);
        C.same("0 still", x.node(0, 5), 0);
        x.read(0, 0);
        C.same("from 1 on", x.node(0, 5), 2);
    }

    @Says("6 with what it is armed still (0: not)")
    static void promise15_withWhatItIsArmedStill() {
        QuorumNodes x = alone();
        C.same("not", x.node(0, 6), 0);
        x.arm(0, 3);
        C.same("3", x.node(0, 6), 3);
        x.write(0, 0, 1);
        C.same("2", x.node(0, 6), 2);
        x.read(0, 0);
        C.same("no write", x.node(0, 6), 2);
        x.write(0, 0, 1);
        C.same("1", x.node(0, 6), 1);
        x.write(0, 0, 1);
        C.same("it went down", x.node(0, 6), 0);
    }

    @Says("NONE for others")
    static void promise15_noneForOthers() {
        QuorumNodes x = new QuorumNodes(8, 1, 8);
        for (int what : outside(6)) {
            C.same("what " + what, x.node(0, what), NONE);
        }
        for (int no : NO_NODES) {
            for (int what = 0; what < 7; what++) {
                C.same("node " + no + ", " + what, x.node(no, what), NONE);
            }
        }
        C.same("the last one", x.node(7, 0), 1);
    }

    // ---- promise 16

    @Says("0 its TAG's number, 1 its writer, 2 its value")
    static void promise16_tagAndValue() {
        QuorumNodes x = new QuorumNodes(8, 1, 8);
        cellIs("0 at first", x, 7, 3, 0, 0, 0);
        x.write(7, 3, 11);
        x.write(0, 0, 12);
        cellIs("the last object of the last node", x, 7, 3, 1, 7, 11);
        cellIs("the first object of the first node", x, 0, 0, 1, 0, 12);
        cellIs("others", x, 7, 0, 0, 0, 0);
        x.crash(7);
        cellIs("of one that is DOWN", x, 7, 3, 1, 7, 11);
    }

    @Says("NONE for others (a value may be that, too)")
    static void promise16_noneForOthers() {
        QuorumNodes x = new QuorumNodes(8, 1, 8);
        for (int no : NO_NODES) {
            for (int what = 0; what < 3; what++) {
                C.same("node " + no, x.cell(no, 0, what), NONE);
            }
        }
        for (int no : NO_OBJECTS) {
            for (int what = 0; what < 3; what++) {
                C.same("object " + no, x.cell(0, no, what), NONE);
            }
        }
        for (int what : outside(2)) {
            C.same("what " + what, x.cell(0, 0, what), NONE);
        }
    }

    @Says("NONE for others (a value may be that, too)")
    static void promise16_aValueMayBeThatToo() {
        QuorumNodes x = alone();
        x.write(0, 0, NONE);
        cellIs("the value", x, 0, 0, 1, 0, NONE);
        C.same("the result", x.task(0, 4), NONE);
    }

    // ---- promise 17

    @Says("0 its state, 1 its configuration (0: UNKNOWN)")
    static void promise17_stateAndConfiguration() {
        QuorumNodes x = alone(1);
        mapIs("ACTIVE", x, 0, 0, 1, code(1, 1, 1));
        mapIs("UNKNOWN", x, 0, 2, 0, 0);
        x.retire(0);
        mapIs("RETIRED: it has it still", x, 0, 0, 2, code(1, 1, 1));
        mapIs("of one that is ABSENT", x, 7, 0, 0, 0);
        x.crash(0);
        mapIs("of one that is DOWN", x, 0, 1, 1, code(1, 1, 1));
    }

    /** What is PROMISED and ACCEPTED says nothing of the MAP. */
    @Says("0 its state, 1 its configuration (0: UNKNOWN)")
    static void promise17_unknownThoughItWasAccepted() {
        QuorumNodes x = new QuorumNodes(2, 1, 2);
        x.propose(0, 3, 2, 1);
        mapIs("ACCEPTED", x, 0, 1, 0, 0, 8, 8, code(3, 2, 1));
        x.deliver(1);
        mapIs("ACCEPTED", x, 1, 1, 0, 0, 8, 8, code(3, 2, 1));
    }

    @Says("2 PROMISED, 3 ACCEPTED, 4 the configuration that was accepted")
    static void promise17_promisedAndAccepted() {
        QuorumNodes x = new QuorumNodes(2, 2, 1);
        x.propose(1, 2, 1, 1);
        mapIs("PROMISED alone", x, 1, 1, 0, 0, 9, 0, 0);
        mapIs("not asked yet", x, 0, 1, 0, 0, 0, 0, 0);
        exchange(x, PREPARE, 1, 0);
        mapIs("ACCEPTED", x, 1, 1, 1, code(2, 1, 1), 9, 9, code(2, 1, 1));
        mapIs("PROMISED", x, 0, 1, 0, 0, 9, 0, 0);
    }

    @Says("(2 to 4: 0 of index 0)")
    static void promise17_0OfIndex0() {
        QuorumNodes x = alone(1);
        x.retire(0);
        for (int what = 2; what <= 4; what++) {
            C.same("index 0", x.map(0, 0, what), 0);
            C.same("index 0 of one that is ABSENT", x.map(7, 0, what), 0);
            C.yes("index 1", x.map(0, 1, what) != 0);
        }
    }

    @Says("NONE for others")
    static void promise17_noneForOthers_indexes() {
        QuorumNodes x = new QuorumNodes(8, 1, 8);
        for (int index : outside(15)) {
            for (int what = 0; what < 5; what++) {
                C.same("index " + index, x.map(0, index, what), NONE);
            }
        }
        for (int what = 0; what < 5; what++) {
            C.same("the last index", x.map(0, 15, what), 0);
        }
    }

    @Says("NONE for others")
    static void promise17_noneForOthers_nodes() {
        QuorumNodes x = new QuorumNodes(8, 1, 8);
        for (int no : NO_NODES) {
            for (int what = 0; what < 5; what++) {
                C.same("node " + no, x.map(no, 0, what), NONE);
            }
        }
    }

    @Says("NONE for others")
    static void promise17_noneForOthers_what() {
        QuorumNodes x = new QuorumNodes(8, 1, 8);
        for (int what : outside(4)) {
            C.same("what " + what, x.map(0, 0, what), NONE);
            C.same("what " + what, x.map(0, 15, what), NONE);
        }
    }

    // ---- promise 18

    @Says("Of a node's task, or the latest one that was DONE")
    static void promise18_theLatestOneThatWasDone() {
        QuorumNodes x = new QuorumNodes(2, 2, 2);
        x.write(0, 1, 7);
        work("it goes on", x, 0, 1, 2, 1);
        deliverAll(x);
        work("it was DONE", x, 0, 1, 2, 0, 1, 7, 3, 3, 1, 0, 0);
        x.read(0, 4);
        work("a call that is refused is none", x, 0, 1, 2, 0, 1, 7, 3, 3, 1, 0, 0);
        x.read(0, 2);
        work("the next one", x, 0, 2, 1, 1, 2, 0, 3, 1, 0, 0, 0);
    }

    @Says("1 what it is (1 READ, 2 WRITE, 3 PROPOSAL, 4 RETIREMENT)")
    static void promise18_whatItIs() {
        QuorumNodes x = alone();
        x.read(0, 0);
        C.same("READ", x.task(0, 1), 1);
        x.write(0, 0, 1);
        C.same("WRITE", x.task(0, 1), 2);
        x.propose(0, 1, 1, 1);
        C.same("PROPOSAL", x.task(0, 1), 3);
        x.retire(0);
        C.same("RETIREMENT", x.task(0, 1), 4);
    }

    @Says("2 its phase (0 DONE)")
    static void promise18_itsPhase() {
        QuorumNodes x = new QuorumNodes(2, 2, 2);
        x.read(0, 0);
        C.same("phase 1", x.task(0, 2), 1);
        exchange(x, QUERY, 0, 1);
        C.same("phase 2", x.task(0, 2), 2);
        exchange(x, STORE, 0, 1);
        C.same("DONE", x.task(0, 2), 0);
    }

    @Says("3 its object, index or TARGET")
    static void promise18_itsObjectIndexOrTarget() {
        QuorumNodes x = alone();
        x.read(0, 3);
        C.same("the last object", x.task(0, 3), 3);
        x.write(0, 0, 1);
        C.same("the first object", x.task(0, 3), 0);
        for (int index = 1; index < 16; index++) {
            x.propose(0, 1, 1, 1);
            C.same("the index", x.task(0, 3), index);
        }
        x.retire(0);
        C.same("TARGET", x.task(0, 3), 15);
    }

    @Says("4 its result (0 ahead of it)")
    static void promise18_itsResult() {
        QuorumNodes x = new QuorumNodes(2, 2, 2);
        x.write(0, 0, 7);
        C.same("ahead, in phase 1", x.task(0, 4), 0);
        exchange(x, QUERY, 0, 1);
        C.same("ahead, in phase 2", x.task(0, 4), 0);
        exchange(x, STORE, 0, 1);
        C.same("the value", x.task(0, 4), 7);
        x.read(0, 0);
        C.same("ahead of the next one's", x.task(0, 4), 0);
        deliverAll(x);
        C.same("the value", x.task(0, 4), 7);
        x.propose(0, 3, 1, 2);
        C.same("ahead", x.task(0, 4), 0);
        deliverAll(x);
        C.same("its own", x.task(0, 4), 1);
        x.retire(0);
        C.same("ahead", x.task(0, 4), 0);
        deliverAll(x);
        C.same("one was OLD", x.task(0, 4), 1);
    }

    @Says("5 those ASKED, 6 those that have ANSWERED (sets; of its latest phase, DONE or not)")
    static void promise18_askedAndAnswered() {
        QuorumNodes x = new QuorumNodes(8, 2, 7);
        x.read(7, 0);
        C.same("ASKED", x.task(7, 5), 255);
        C.same("itself", x.task(7, 6), 128);
        exchange(x, QUERY, 7, 0);
        C.same("phase 2", x.task(7, 2), 2);
        C.same("ASKED anew", x.task(7, 5), 255);
        C.same("0 has not ANSWERED in this phase", x.task(7, 6), 128);
        for (int node = 0; node < 6; node++) {
            exchange(x, STORE, 7, node);
        }
        C.same("DONE", x.task(7, 2), 0);
        C.same("those of phase 2", x.task(7, 5), 255);
        C.same("all but 6", x.task(7, 6), 191);
        exchange(x, STORE, 7, 6);
        C.same("too late", x.task(7, 6), 191);
    }

    @Says("7 BEST's number, 8 its writer (0 of PROPOSALS and RETIREMENTS)")
    static void promise18_best() {
        QuorumNodes x = new QuorumNodes(2, 2, 2);
        x.write(1, 0, 5);
        work("BEST of a WRITE in phase 1", x, 1, 1, 2, 1, 0, 0, 3, 2, 0, 0, 0);
        exchange(x, QUERY, 1, 0);
        work("BEST of a WRITE in phase 2", x, 1, 1, 2, 2, 0, 0, 3, 2, 1, 1, 0);
        deliverAll(x);
        x.read(0, 0);
        work("BEST of a READ", x, 0, 2, 1, 1, 0, 0, 3, 1, 1, 1, 0);
        deliverAll(x);
        x.propose(1, 2, 1, 1);
        work("0 of a PROPOSAL", x, 1, 3, 3, 1, 1, 0, 3, 2, 0, 0, 9);
        deliverAll(x);
        work("0 of a PROPOSAL that is DONE", x, 1, 3, 3, 0, 1, 1, 3, 3, 0, 0, 9);
        x.retire(1);
        work("0 of a RETIREMENT", x, 1, 4, 4, 1, 1, 0, 3, 2, 0, 0, 0);
        deliverAll(x);
        work("0 of a RETIREMENT that is DONE", x, 1, 4, 4, 0, 1, 1, 2, 2, 0, 0, 0);
    }

    @Says("9 its ballot (0 of others)")
    static void promise18_itsBallot() {
        QuorumNodes x = alone();
        x.propose(0, 1, 1, 1);
        C.same("of a PROPOSAL", x.task(0, 9), 8);
        x.read(0, 0);
        C.same("of a READ", x.task(0, 9), 0);
        x.propose(0, 1, 1, 1);
        C.same("of a PROPOSAL", x.task(0, 9), 16);
        x.write(0, 0, 1);
        C.same("of a WRITE", x.task(0, 9), 0);
        x.propose(0, 1, 1, 1);
        x.retire(0);
        C.same("of a RETIREMENT", x.task(0, 9), 0);
    }

    @Says("NONE for others")
    static void promise18_noneForOthers() {
        QuorumNodes x = new QuorumNodes(8, 8, 8);
        x.read(0, 0);
        x.read(7, 0);
        for (int what : outside(9)) {
            C.same("what " + what, x.task(0, what), NONE);
        }
        for (int no : NO_NODES) {
            for (int what = 0; what < 10; what++) {
                C.same("node " + no, x.task(no, what), NONE);
            }
        }
        C.same("of the last node", x.task(7, 0), 2);
    }

    @Says("without one, or if it is not UP")
    static void promise18_withoutOne() {
        QuorumNodes x = new QuorumNodes(2, 2, 2);
        x.join(7, 0);
        for (int what = 0; what < 10; what++) {
            C.same("none so far", x.task(0, what), NONE);
            C.same("none so far", x.task(7, what), NONE);
        }
        x.read(0, 0);
        x.crash(0);
        x.restart(0);
        for (int what = 0; what < 10; what++) {
            C.same("it was forgotten", x.task(0, what), NONE);
        }
    }

    @Says("without one, or if it is not UP")
    static void promise18_itIsNotUp() {
        QuorumNodes x = new QuorumNodes(2, 2, 2);
        x.read(0, 0);
        x.crash(0);
        x.write(1, 0, 5);
        x.arm(1, 1);
        x.crash(1);
        for (int what = 0; what < 10; what++) {
            C.same("DOWN", x.task(0, what), NONE);
            C.same("DOWN", x.task(1, what), NONE);
            C.same("ABSENT", x.task(7, what), NONE);
        }
    }

    // ---- promise 19

    @Says("3 the INCARNATION, 4 the SERIAL of the request (0, 0 of GOSSIP, JOIN)")
    static void promise19_incarnationAndSerial() {
        QuorumNodes x = new QuorumNodes(2, 2, 2);
        x.crash(0);
        x.restart(0);
        x.read(0, 0);
        letter("a request", x, 0, QUERY, 0, 1, 2, 1);
        x.deliver(0);
        letter("its answer has those of the one who asks", x, 0, ANSWER, 1, 0, 2, 1);
        x.deliver(0);
        letter("the next phase", x, 0, STORE, 0, 1, 2, 2);
        x.deliver(0);
        letter("its answer", x, 0, STORED, 1, 0, 2, 2);
        x.gossip(0, 1);
        letter("GOSSIP", x, 1, GOSSIP, 0, 1, 0, 0);
        x.join(7, 0);
        letter("JOIN", x, 2, JOIN, 7, 0, 0, 0);
        x.deliver(2);
        letter("GOSSIP that answers a JOIN", x, 2, GOSSIP, 0, 7, 0, 0);
    }

    @Says("5 its object or index (0 of kinds 4 and 10 to 15; of answers to PROPOSALS its index)")
    static void promise19_itsObject() {
        QuorumNodes x = new QuorumNodes(2, 2, 2);
        x.write(0, 3, 8);
        C.same("of 1", x.message(0, 5), 3);
        x.deliver(0);
        C.same("of 2", x.message(0, 5), 3);
        x.deliver(0);
        C.same("of 3", x.message(0, 5), 3);
        x.deliver(0);
        letter("of 4", x, 0, STORED, 1, 0, 1, 2, 0);
    }

    @Says("5 its object or index (0 of kinds 4 and 10 to 15; of answers to PROPOSALS its index)")
    static void promise19_itsIndex() {
        QuorumNodes x = alone(1, 1, 3);
        x.join(1, 0);
        deliverAll(x);
        x.propose(1, 1, 1, 1);
        letter("of 5", x, 0, PREPARE, 1, 0, 1, 1, 4);
        letter("of 7", x, 1, ACCEPT, 1, 0, 1, 2, 4);
        x.deliver(0);
        letter("of 6", x, 1, PROMISE, 0, 1, 1, 1, 4);
        x.twice(0);
        x.deliver(0);
        letter("of 8", x, 2, ACCEPTED, 0, 1, 1, 2, 4);
        x.propose(0, 1, 1, 1);
        x.deliver(1);
        letter("of 9", x, x.count(0) - 1, REFUSED, 0, 1, 1, 2, 4);
    }

    @Says("5 its object or index (0 of kinds 4 and 10 to 15; of answers to PROPOSALS its index)")
    static void promise19_0OfKinds10To15() {
        QuorumNodes x = alone(1);
        x.write(0, 0, 9);
        x.propose(0, 3, 1, 2);
        x.join(1, 0);
        C.same("of 15", x.message(0, 5), 0);
        deliverAll(x);
        x.retire(1);
        letter("of 10", x, 0, COLLECT, 1, 0, 1, 1, 0, 0, 0, 0, 2);
        x.deliver(0);
        letter("of 11", x, 0, COLLECTED, 0, 1, 1, 1, 0, 0, 0, 0, 2);
        x.deliver(0);
        letter("of 12", x, 0, SPREAD, 1, 0, 1, 2, 0, 0, 0, 0, 2);
        x.deliver(0);
        letter("of 13", x, 0, SPREAD_OUT, 0, 1, 1, 2, 0, 0, 0, 0, 2);
        x.gossip(0, 1);
        letter("of 14", x, 1, GOSSIP, 0, 1, 0, 0, 0, 0, 0, 0, 2);
    }

    @Says("6 its TAG's number or its ballot (of 6 that which was ACCEPTED, of 9 PROMISED; 0 of kinds 1, 4, 8 and 10 to 15)")
    static void promise19_itsTagsNumber() {
        QuorumNodes x = new QuorumNodes(2, 2, 2);
        x.write(1, 3, 8);
        deliverAll(x);
        x.write(1, 3, 9);
        letter("0 of 1", x, 0, QUERY, 1, 0, 1, 3, 3, 0, 0, 0, 0);
        x.deliver(0);
        letter("of 2", x, 0, ANSWER, 0, 1, 1, 3, 3, 1, 1, 8, 0);
        x.deliver(0);
        letter("of 3", x, 0, STORE, 1, 0, 1, 4, 3, 2, 1, 9, 0);
        x.deliver(0);
        letter("0 of 4", x, 0, STORED, 0, 1, 1, 4, 0, 0, 0, 0, 0);
        x.gossip(0, 1);
        letter("0 of 14", x, 1, GOSSIP, 0, 1, 0, 0, 0, 0, 0, 0, 0);
    }

    @Says("6 its TAG's number or its ballot (of 6 that which was ACCEPTED, of 9 PROMISED; 0 of kinds 1, 4, 8 and 10 to 15)")
    static void promise19_itsBallot() {
        int c = code(3, 2, 1);
        QuorumNodes x = new QuorumNodes(2, 1, 2);
        x.propose(1, 3, 2, 1);
        letter("of 5", x, 0, PREPARE, 1, 0, 1, 1, 1, 9, 0, 0, 0);
        letter("of 7", x, 1, ACCEPT, 1, 0, 1, 2, 1, 9, c, 0, 0);
        x.twice(1);
        x.twice(0);
        x.deliver(0);
        letter("of 6: none was ACCEPTED", x, 3, PROMISE, 0, 1, 1, 1, 1, 0, 0, 0, 0);
        x.deliver(0);
        letter("0 of 8", x, 3, ACCEPTED, 0, 1, 1, 2, 1, 0, 0, 0, 0);
        x.again(1);
        letter("the next 5", x, 4, PREPARE, 1, 0, 1, 3, 1, 17, 0, 0, 0);
        x.deliver(4);
        letter("of 6: what was ACCEPTED", x, 5, PROMISE, 0, 1, 1, 3, 1, 9, c, 0, 0);
        x.deliver(1);
        letter("of 9: PROMISED", x, 5, REFUSED, 0, 1, 1, 1, 1, 17, 0, 0, 0);
    }

    @Says("7 its TAG's writer or its configuration (of 6 and 7; 0 of others)")
    static void promise19_itsWriterOrItsConfiguration() {
        QuorumNodes x = new QuorumNodes(8, 1, 8);
        x.write(7, 0, 5);
        int store = find(x, STORE, 7, 0);
        C.same("the writer of 3", x.message(store, 7), 7);
        x.deliver(store);
        loseAll(x);
        x.read(6, 0);
        pass(x, QUERY, 6, 0);
        letter("the writer of 2", x, x.count(0) - 1, ANSWER, 0, 6, 1, 1, 0, 1, 7, 5, 0);
        loseAll(x);
        x.propose(5, 255, 8, 1);
        C.same("0 of 5", x.message(find(x, PREPARE, 5, 0), 7), 0);
        C.same("the configuration of 7", x.message(find(x, ACCEPT, 5, 0), 7), code(255, 8, 1));
    }

    @Says("8 its value (of 2, 3; 0 of others)")
    static void promise19_itsValue() {
        QuorumNodes x = new QuorumNodes(2, 2, 2);
        x.write(1, 0, 6);
        deliverAll(x);
        x.write(1, 0, MOST);
        C.same("0 of 1", x.message(0, 8), 0);
        x.deliver(0);
        C.same("of 2", x.message(0, 8), 6);
        x.deliver(0);
        C.same("of 3", x.message(0, 8), MOST);
        x.deliver(0);
        C.same("0 of 4", x.message(0, 8), 0);
        x.gossip(1, 0);
        C.same("0 of 14", x.message(1, 8), 0);
        x.propose(0, 1, 1, 1);
        C.same("0 of 5", x.message(2, 8), 0);
    }

    @Says("9 the greatest index that its MAP has ACTIVE (NONE)")
    static void promise19_theGreatestIndex() {
        QuorumNodes x = alone();
        x.join(1, 0);
        letter("none", x, 0, JOIN, 1, 0, 0, 0, 0, 0, 0, 0, NONE);
        for (int index = 0; index < 16; index++) {
            x.gossip(0, 1);
            C.same("its MAP", x.message(index + 1, 9), index);
            x.propose(0, 1, 1, 1);
        }
        x.retire(0);
        x.gossip(0, 1);
        C.same("15 is the only one", x.message(17, 9), 15);
        C.same("those sent ahead of this", x.message(1, 9), 0);
    }

    @Says("NONE for others (a value may be that, too)")
    static void promise19_noneForOthers() {
        QuorumNodes x = new QuorumNodes(2, 1, 2);
        for (int what = -1; what < 11; what++) {
            C.same("none at all", x.message(0, what), NONE);
        }
        fill(x, 0, 1, 2);
        for (int what = 0; what < 10; what++) {
            C.same("behind the last one", x.message(2, what), NONE);
            C.same("ahead of the first one", x.message(-1, what), NONE);
        }
        for (int no : new int[] {119, 120, LEAST, MOST}) {
            C.same("message " + no, x.message(no, 0), NONE);
        }
        for (int what : outside(9)) {
            C.same("what " + what, x.message(0, what), NONE);
        }
        fill(x, 1, 0, 120);
        letter("the last one of 120", x, 119, GOSSIP, 1, 0);
        C.same("behind it", x.message(120, 0), NONE);
    }

    @Says("NONE for others (a value may be that, too)")
    static void promise19_aValueMayBeThatToo() {
        QuorumNodes x = new QuorumNodes(2, 1, 2);
        x.write(0, 0, NONE);
        letter("the value", x, 1, STORE, 0, 1, 1, 2, 0, 1, 0, NONE, 0);
    }

    // ---- promise 20

    @Says("0 the messages under way")
    static void promise20_messagesUnderWay() {
        QuorumNodes x = new QuorumNodes(2, 1, 2);
        C.same("0 at first", x.count(0), 0);
        fill(x, 0, 1, 120);
        C.same("120", x.count(0), 120);
        x.gossip(0, 1);
        C.same("no more", x.count(0), 120);
        x.lose(0);
        C.same("119", x.count(0), 119);
    }

    @Says("1 tasks so far")
    static void promise20_tasksSoFar() {
        QuorumNodes x = alone();
        C.same("0 at first", x.count(1), 0);
        x.read(0, 0);
        x.read(0, 4);
        x.write(0, -1, 4);
        x.propose(0, 0, 1, 1);
        x.retire(0);
        C.same("those refused are none", x.count(1), 1);
        x.arm(0, 1);
        x.write(0, 0, 5);
        C.same("one with which its node goes down", x.count(1), 2);
        x.restart(0);
        C.same("it stays", x.count(1), 2);
    }

    @Says("2 writes of all nodes so far")
    static void promise20_writesOfAllNodesSoFar() {
        QuorumNodes x = new QuorumNodes(3, 2, 2);
        C.same("0 at first: the first MAPs are no writes", x.count(2), 0);
        x.write(0, 0, 5);
        deliverAll(x);
        C.same("one of each", x.count(2), 3);
        x.arm(0, 1);
        x.write(0, 0, 6);
        exchange(x, QUERY, 0, 1);
        C.same("DOWN", x.node(0, 0), 2);
        C.same("the one instead of which it went down is none", x.count(2), 3);
        x.restart(0);
        C.same("INCARNATION", x.count(2), 4);
    }

    @Says("3 nodes that are UP")
    static void promise20_nodesThatAreUp() {
        QuorumNodes x = new QuorumNodes(7, 1, 7);
        C.same("at first", x.count(3), 7);
        x.join(7, 0);
        C.same("all", x.count(3), 8);
        for (int node = 0; node < 8; node++) {
            x.crash(node);
            C.same("one less", x.count(3), 7 - node);
        }
        x.restart(3);
        C.same("one again", x.count(3), 1);
    }

    @Says("4 messages that were lost as 120 were under way")
    static void promise20_lostAs120WereUnderWay() {
        QuorumNodes x = new QuorumNodes(3, 2, 2);
        x.gossip(0, 7);
        x.deliver(0);
        x.gossip(0, 1);
        x.lose(0);
        C.same("others that were lost are none of these", x.count(4), 0);
        fill(x, 0, 1, 119);
        x.read(0, 0);
        countIs("one of two", x, 120, 1, 0, 3, 1);
        x.twice(0);
        C.same("twice is refused", x.count(4), 1);
        x.gossip(1, 0);
        C.same("one more", x.count(4), 2);
        x.lose(0);
        C.same("it stays", x.count(4), 2);
    }

    @Says("NONE for others")
    static void promise20_noneForOthers() {
        QuorumNodes x = new QuorumNodes(2, 1, 2);
        for (int what : outside(4)) {
            C.same("what " + what, x.count(what), NONE);
        }
    }
}
