/** For each sentence of the terms' PART 2 that names a boundary a test of its own: tasks, READ and WRITE. */
public final class Part2SentencesTest extends Runs {
    public static void main(String[] args) throws Exception {
        Sentences.run(Part2SentencesTest.class, args, C);
    }

    /** Nodes 0 and 1 know index 0 (node 0) and index 1 (node 1). */
    private static QuorumNodes pair() {
        QuorumNodes x = alone(2);
        x.join(1, 0);
        deliverAll(x);
        return x;
    }

    // ---- tasks and phases

    @Says("a node has one at most that is not DONE")
    static void part2_aTask_oneAtMostThatIsNotDone() {
        QuorumNodes x = new QuorumNodes(2, 2, 2);
        x.write(0, 0, 5);
        C.same("another object", x.write(0, 1, 6), NONE);
        C.same("another node may", x.write(1, 0, 7), 2);
        work("the first one goes on", x, 0, 1, 2, 1, 0, 0, 3, 1);
        deliverAll(x);
        C.same("DONE: the next one", x.write(0, 1, 6), 3);
    }

    @Says("All of it, SERIAL too, is forgotten as soon as the node goes down (also a task that was DONE)")
    static void part2_aTask_isForgotten() {
        QuorumNodes x = new QuorumNodes(2, 2, 2);
        x.read(0, 0);
        C.same("SERIAL", x.node(0, 5), 1);
        x.crash(0);
        C.same("SERIAL of one that is DOWN", x.node(0, 5), 0);
        x.restart(0);
        C.same("SERIAL", x.node(0, 5), 0);
        C.same("no task", x.task(0, 2), NONE);
        C.same("none to ask again", x.again(0), NONE);
    }

    @Says("All of it, SERIAL too, is forgotten as soon as the node goes down (also a task that was DONE)")
    static void part2_aTask_isForgotten_alsoOneThatWasDone() {
        QuorumNodes x = alone();
        x.read(0, 0);
        C.same("DONE", x.task(0, 2), 0);
        x.crash(0);
        C.same("DOWN", x.task(0, 0), NONE);
        x.restart(0);
        C.same("UP again", x.task(0, 0), NONE);
    }

    @Says("A PHASE that BEGINS gets the next SERIAL of the node (0 at first, from 1 on); none is ASKED or has ANSWERED")
    static void part2_aPhase_getsTheNextSerial() {
        QuorumNodes x = new QuorumNodes(2, 2, 2);
        C.same("0 at first", x.node(0, 5), 0);
        x.read(0, 0);
        letter("from 1 on", x, 0, QUERY, 0, 1, 1, 1);
        exchange(x, QUERY, 0, 1);
        letter("phase 2", x, 0, STORE, 0, 1, 1, 2);
        exchange(x, STORE, 0, 1);
        x.write(0, 0, 1);
        letter("the next task", x, 0, QUERY, 0, 1, 1, 3);
        C.same("of this node alone", x.node(1, 5), 0);
    }

    @Says("none is ASKED or has ANSWERED")
    static void part2_aPhase_noneIsAskedOrHasAnswered() {
        QuorumNodes x = pair();
        x.retire(0);
        loseAll(x);
        work("phase 2 asks 1 alone; 0 was ASKED in phase 1", x, 0, 2, 4, 2, 1, 0, 2, 0);
        QuorumNodes y = new QuorumNodes(3, 3, 1);
        y.propose(0, 1, 1, 1);
        exchange(y, PREPARE, 0, 1);
        y.again(0);
        work("1 has not ANSWERED in the new phase", y, 0, 1, 3, 1, 1, 0, 7, 1);
    }

    @Says("each of its nodes that was not ASKED in this phase, by numbers, is ASKED: a request is sent to it")
    static void part2_toAsk_byNumbers() {
        QuorumNodes x = new QuorumNodes(8, 8, 1);
        x.read(4, 0);
        C.same("seven", x.count(0), 7);
        for (int i = 0; i < 7; i++) {
            letter("by numbers", x, i, QUERY, 4, i < 4 ? i : i + 1);
        }
        C.same("ASKED", x.task(4, 5), 255);
    }

    @Says("each of its nodes that was not ASKED in this phase, by numbers, is ASKED: a request is sent to it")
    static void part2_toAsk_notThoseThatWereAsked() {
        QuorumNodes x = pair();
        x.read(0, 0);
        loseAll(x);
        x.propose(1, 7, 1, 3);
        x.gossip(1, 0);
        x.deliver(0);
        C.same("0, 1 and 2", x.task(0, 5), 7);
        C.same("2 alone is sent one", x.count(0), 1);
        letter("to 2", x, 0, QUERY, 0, 2);
    }

    @Says("the node itself does at once what is asked, and has ANSWERED, without any message")
    static void part2_toAsk_theNodeItself() {
        QuorumNodes x = new QuorumNodes(3, 2, 2);
        x.propose(1, 1, 1, 1);
        C.same("to the two others", x.count(0), 2);
        work("it has ANSWERED", x, 1, 1, 3, 1, 1, 0, 7, 2);
        mapIs("it has PROMISED", x, 1, 1, 0, 0, 9, 0, 0);
        exchange(x, PREPARE, 1, 0);
        work("it has ANSWERED in phase 2", x, 1, 1, 3, 2, 1, 0, 7, 2);
        mapIs("it has ACCEPTED", x, 1, 1, 0, 0, 9, 9, code(1, 1, 1));
    }

    @Says("an answer counts if these are those of the node now")
    static void part2_counts_notOfAnOldIncarnation() {
        QuorumNodes x = new QuorumNodes(2, 2, 2);
        x.read(0, 0);
        x.deliver(0);
        x.crash(0);
        x.restart(0);
        x.read(0, 0);
        letter("of INCARNATION 1, SERIAL 1", x, 0, ANSWER, 1, 0, 1, 1);
        C.same("SERIAL 1 again", x.node(0, 5), 1);
        x.deliver(0);
        work("it does not count", x, 0, 2, 1, 1, 0, 0, 3, 1);
        exchange(x, QUERY, 0, 1);
        C.same("that of INCARNATION 2 does", x.task(0, 2), 2);
    }

    @Says("an answer counts if these are those of the node now")
    static void part2_counts_notOfAnOldSerial() {
        QuorumNodes x = new QuorumNodes(3, 2, 2);
        x.read(0, 0);
        x.deliver(1);
        x.deliver(0);
        x.deliver(0);
        work("phase 2", x, 0, 1, 1, 2, 0, 0, 7, 1);
        letter("an answer of phase 1", x, 0, ANSWER, 1, 0, 1, 1);
        x.deliver(0);
        work("it does not count", x, 0, 1, 1, 2, 0, 0, 7, 1);
    }

    @Says("and a task is not DONE")
    static void part2_counts_notForATaskThatIsDone() {
        QuorumNodes x = new QuorumNodes(3, 2, 2);
        x.read(0, 0);
        exchange(x, QUERY, 0, 1);
        exchange(x, STORE, 0, 1);
        work("DONE", x, 0, 1, 1, 0, 0, 0, 7, 3);
        exchange(x, STORE, 0, 2);
        work("of the same SERIAL, but too late", x, 0, 1, 1, 0, 0, 0, 7, 3);
        C.same("SERIAL", x.node(0, 5), 2);
    }

    /** The second ANSWER of node 1 has a greater TAG. */
    @Says("(from a node that has ANSWERED already it counts for nothing)")
    static void part2_counts_forNothingFromOneThatHasAnswered() {
        QuorumNodes x = new QuorumNodes(3, 3, 1);
        x.read(0, 0);
        x.twice(0);
        exchange(x, QUERY, 0, 1);
        work("1 has ANSWERED", x, 0, 1, 1, 1, 0, 0, 7, 3, 0, 0);
        x.write(2, 0, 9);
        exchange(x, QUERY, 2, 0);
        exchange(x, QUERY, 2, 1);
        pass(x, STORE, 2, 1);
        cellIs("1 has more now", x, 1, 0, 1, 2, 9);
        x.lose(x.count(0) - 1);
        x.lose(0);
        exchange(x, QUERY, 0, 1);
        work("it counts for nothing", x, 0, 1, 1, 1, 0, 0, 7, 3, 0, 0);
    }

    /** Node 1 has PROMISED, then it refuses the same PREPARE with the ballot of a later one. */
    @Says("(from a node that has ANSWERED already it counts for nothing)")
    static void part2_counts_forNothing_alsoRefused() {
        QuorumNodes x = new QuorumNodes(3, 3, 3);
        x.propose(0, 1, 1, 1);
        x.twice(0);
        exchange(x, PREPARE, 0, 1);
        x.propose(2, 4, 1, 1);
        x.again(2);
        pass(x, PREPARE, 2, 1);
        pass(x, PREPARE, 2, 1);
        mapIs("PROMISED", x, 1, 1, 0, 0, 18, 0, 0);
        pass(x, PREPARE, 0, 1);
        int last = x.count(0) - 1;
        letter("REFUSED", x, last, REFUSED, 1, 0, 1, 1, 1, 18);
        x.deliver(last);
        C.same("ROUND stays", x.node(0, 2), 1);
        work("as before", x, 0, 1, 3, 1, 1, 0, 7, 3, 0, 0, 8);
    }

    // ---- when it is seen whether that is ENOUGH

    @Says("When it has counted")
    static void part2_enough_whenItHasCounted() {
        QuorumNodes x = new QuorumNodes(3, 2, 2);
        x.read(0, 0);
        x.deliver(0);
        C.same("sent, not yet there", x.task(0, 2), 1);
        x.deliver(1);
        C.same("it has counted", x.task(0, 2), 2);
    }

    /** The whole set is asked, though the node itself is ENOUGH and comes first. */
    @Says("when a set was asked as a phase begins")
    static void part2_enough_whenASetWasAskedAsAPhaseBegins() {
        QuorumNodes x = new QuorumNodes(3, 1, 3);
        x.read(0, 0);
        C.same("phase 2", x.task(0, 2), 2);
        C.same("both phases", x.count(0), 4);
        letter("1", x, 0, QUERY, 0, 1, 1, 1);
        letter("2", x, 1, QUERY, 0, 2, 1, 1);
        letter("3", x, 2, STORE, 0, 1, 1, 2);
        letter("4", x, 3, STORE, 0, 2, 1, 2);
    }

    /** Index 0 is given up while node 0 waits for node 1 in phase 2: nothing more is needed. */
    @Says("and when a task has looked, it is seen whether that is ENOUGH")
    static void part2_enough_whenATaskHasLooked() {
        QuorumNodes x = new QuorumNodes(3, 1, 3);
        x.write(0, 0, 5);
        loseAll(x);
        x.again(0);
        exchange(x, STORE, 0, 1);
        loseAll(x);
        work("2 is missing", x, 0, 1, 2, 2, 0, 0, 7, 3);
        x.propose(1, 2, 1, 1);
        pass(x, ACCEPT, 1, 0);
        pass(x, ACCEPT, 1, 2);
        pass(x, ACCEPTED, 0, 1);
        pass(x, ACCEPTED, 2, 1);
        loseAll(x);
        mapIs("index 1", x, 1, 1, 1, code(2, 1, 1));
        x.retire(1);
        exchange(x, COLLECT, 1, 0);
        exchange(x, COLLECT, 1, 2);
        mapIs("index 0", x, 1, 0, 2);
        work("index 1 has W, index 0 has not", x, 0, 1, 2, 2, 0, 0, 7, 3);
        loseAll(x);
        x.gossip(1, 0);
        x.deliver(0);
        work("ENOUGH", x, 0, 1, 2, 0, 0, 5, 7, 3);
    }

    @Says("(What a task does when it is ENOUGH it does at once, and so on.)")
    static void part2_enough_atOnceAndSoOn() {
        QuorumNodes x = new QuorumNodes(2, 2, 1);
        x.write(0, 0, 5);
        exchange(x, QUERY, 0, 1);
        work("from phase 1 to the end by one message", x, 0, 1, 2, 0, 0, 5, 3, 1, 1, 0, 0);
        C.same("STORE is under way", x.count(0), 1);
        C.same("SERIAL", x.node(0, 5), 2);
    }

    /** Tasks that are DONE as they begin. */
    @Says("(What a task does when it is ENOUGH it does at once, and so on.)")
    static void part2_doneAsItBegins_read() {
        QuorumNodes x = alone();
        C.same("read", x.read(0, 3), 1);
        work("DONE", x, 0, 1, 1, 0, 3, 0, 1, 1, 0, 0, 0);
        nodeIs("two phases", x, 0, 1, 1, 0, 0, 0, 2, 0);
        countIs("no message, no write", x, 0, 1, 0, 1, 0);
        C.same("the next one may begin", x.read(0, 3), 2);
    }

    @Says("(What a task does when it is ENOUGH it does at once, and so on.)")
    static void part2_doneAsItBegins_write() {
        QuorumNodes x = alone();
        C.same("write", x.write(0, 3, 8), 1);
        work("DONE", x, 0, 1, 2, 0, 3, 8, 1, 1, 1, 0, 0);
        nodeIs("two phases", x, 0, 1, 1, 0, 0, 0, 2, 0);
        countIs("no message, a write", x, 0, 1, 1, 1, 0);
    }

    @Says("(What a task does when it is ENOUGH it does at once, and so on.)")
    static void part2_doneAsItBegins_proposal() {
        QuorumNodes x = alone();
        C.same("propose", x.propose(0, 255, 4, 5), 1);
        work("DONE", x, 0, 1, 3, 0, 1, 1, 1, 1, 0, 0, 8);
        nodeIs("two phases", x, 0, 1, 1, 1, 0, 1, 2, 0);
        countIs("no message, four writes", x, 0, 1, 4, 1, 0);
        C.same("none to ask again", x.again(0), NONE);
    }

    @Says("(What a task does when it is ENOUGH it does at once, and so on.)")
    static void part2_doneAsItBegins_retirement() {
        QuorumNodes x = alone(1);
        C.same("retire", x.retire(0), 2);
        work("DONE", x, 0, 2, 4, 0, 1, 1, 1, 1, 0, 0, 0);
        nodeIs("two phases", x, 0, 1, 1, 1, 1, 1, 4, 0);
        countIs("no message, a write", x, 0, 2, 5, 1, 0);
    }

    // ---- READ, WRITE

    @Says("all nodes of ACTIVE configurations (of its own MAP; so always) are asked by QUERY (kind 1)")
    static void part2_read_allNodesOfActiveConfigurations() {
        QuorumNodes x = alone(2, 130);
        C.same("0 knows of two", x.node(0, 4), 1);
        x.crash(0);
        x.restart(0);
        x.read(0, 0);
        C.same("of both", x.task(0, 5), 3);
        QuorumNodes y = pair();
        y.retire(1);
        deliverAll(y);
        y.read(1, 0);
        C.same("not of one that is RETIRED", y.task(1, 5), 2);
        y.read(0, 0);
        C.same("of its own MAP: 0 has not heard of it", y.task(0, 5), 3);
    }

    /** Node 1 alone has the greatest TAG, by its own WRITE; the others answer with less. */
    @Says("BEST is the greatest TAG, with its value, of the node's own as the phase begins and of all answers")
    static void part2_best_itsOwnAsThePhaseBegins() {
        QuorumNodes x = new QuorumNodes(3, 2, 2);
        x.write(1, 0, 5);
        exchange(x, QUERY, 1, 0);
        loseAll(x);
        x.crash(1);
        x.restart(1);
        x.read(1, 0);
        work("BEST", x, 1, 2, 1, 1, 0, 0, 7, 2, 1, 1, 0);
        exchange(x, QUERY, 1, 0);
        work("an answer that is less", x, 1, 2, 1, 2, 0, 0, 7, 2, 1, 1, 0);
        exchange(x, STORE, 1, 0);
        C.same("its value", x.task(1, 4), 5);
    }

    @Says("BEST is the greatest TAG, with its value, of the node's own as the phase begins and of all answers")
    static void part2_best_ofAllAnswers() {
        for (int order = 0; order < 2; order++) {
            QuorumNodes x = new QuorumNodes(4, 1, 4);
            x.write(1, 0, 5);
            x.write(2, 0, 6);
            loseAll(x);
            x.crash(1);
            x.crash(2);
            x.restart(1);
            x.restart(2);
            x.propose(3, 15, 3, 2);
            for (int node = 0; node < 3; node++) {
                exchange(x, ACCEPT, 3, node);
            }
            mapIs("R is 3 now", x, 3, 1, 1, code(15, 3, 2));
            loseAll(x);
            x.read(3, 0);
            exchange(x, QUERY, 3, order == 0 ? 1 : 2);
            C.same("the first answer's writer", x.task(3, 8), order == 0 ? 1 : 2);
            exchange(x, QUERY, 3, order == 0 ? 2 : 1);
            work("(1, 2) of (0, 0), (1, 1), (1, 2)", x, 3, 4, 1, 2, 0, 0, 15, 8, 1, 2, 0);
            cellIs("its own", x, 3, 0, 1, 2, 6);
        }
    }

    /** What comes to its own cell in phase 1 is none of these. */
    @Says("of the node's own as the phase begins and of all answers")
    static void part2_best_notItsOwnOfLater() {
        QuorumNodes x = new QuorumNodes(3, 2, 2);
        x.read(0, 0);
        x.write(1, 0, 6);
        exchange(x, QUERY, 1, 2);
        pass(x, STORE, 1, 0);
        cellIs("its own of later", x, 0, 0, 1, 1, 6);
        C.same("BEST", x.task(0, 7), 0);
        exchange(x, QUERY, 0, 2);
        work("BEST in phase 2", x, 0, 1, 1, 2, 0, 0, 7, 1, 0, 0, 0);
        exchange(x, STORE, 0, 2);
        C.same("BEST's value", x.task(0, 4), 0);
        cellIs("its own is greater and stays", x, 0, 0, 1, 1, 6);
    }

    @Says("ENOUGH: of each ACTIVE configuration at least R have ANSWERED")
    static void part2_enough_atLeastR() {
        QuorumNodes x = new QuorumNodes(5, 3, 4);
        x.read(4, 0);
        exchange(x, QUERY, 4, 0);
        C.same("R - 1", x.task(4, 2), 1);
        exchange(x, QUERY, 4, 3);
        C.same("R", x.task(4, 2), 2);
    }

    @Says("ENOUGH: of each ACTIVE configuration at least R have ANSWERED")
    static void part2_enough_rOfEach() {
        QuorumNodes x = alone();
        x.propose(0, 14, 2, 3);
        for (int node = 1; node < 4; node++) {
            x.join(node, 0);
        }
        deliverAll(x);
        x.read(1, 0);
        work("index 0 has none", x, 1, 2, 1, 1, 0, 0, 15, 2);
        exchange(x, QUERY, 1, 3);
        work("index 1 has R", x, 1, 2, 1, 1, 0, 0, 15, 10);
        exchange(x, QUERY, 1, 2);
        work("more than R is not R of the other", x, 1, 2, 1, 1, 0, 0, 15, 14);
        exchange(x, QUERY, 1, 0);
        C.same("R of each", x.task(1, 2), 2);
    }

    @Says("with a READ BEST goes on; with a WRITE that becomes (BEST's number + 1, the node) with the value to be written")
    static void part2_phase2_whatBestBecomes() {
        QuorumNodes x = new QuorumNodes(2, 2, 2);
        x.write(1, 0, 5);
        deliverAll(x);
        x.read(0, 0);
        exchange(x, QUERY, 0, 1);
        letter("a READ's", x, 0, STORE, 0, 1, 1, 2, 0, 1, 1, 5, 0);
        deliverAll(x);
        x.write(0, 0, 0);
        exchange(x, QUERY, 0, 1);
        letter("a WRITE's", x, 0, STORE, 0, 1, 1, 4, 0, 2, 0, 0, 0);
        work("BEST", x, 0, 3, 2, 2, 0, 0, 3, 1, 2, 0, 0);
    }

    @Says("the node's own cell becomes this, if that is greater")
    static void part2_ownCell_ifThatIsGreater() {
        QuorumNodes x = new QuorumNodes(3, 2, 2);
        x.write(0, 0, 4);
        x.write(1, 0, 6);
        exchange(x, QUERY, 1, 2);
        pass(x, STORE, 1, 0);
        cellIs("0 has (1, 1)", x, 0, 0, 1, 1, 6);
        int before = x.count(2);
        exchange(x, QUERY, 0, 2);
        work("BEST is (1, 0)", x, 0, 1, 2, 2, 0, 0, 7, 1, 1, 0, 0);
        cellIs("(1, 1) is greater", x, 0, 0, 1, 1, 6);
        C.same("no write", x.count(2), before);
        x.write(2, 0, 8);
        exchange(x, QUERY, 2, 0);
        cellIs("(2, 2) is greater", x, 2, 0, 2, 2, 8);
    }

    @Says("(of a READ, too, and whether or not the node is in a set)")
    static void part2_ownCell_ofARead() {
        QuorumNodes x = new QuorumNodes(3, 2, 2);
        x.write(1, 0, 6);
        exchange(x, QUERY, 1, 2);
        loseAll(x);
        x.read(0, 0);
        exchange(x, QUERY, 0, 1);
        C.same("phase 2", x.task(0, 2), 2);
        cellIs("of a READ", x, 0, 0, 1, 1, 6);
    }

    @Says("(of a READ, too, and whether or not the node is in a set)")
    static void part2_ownCell_whetherOrNotInASet() {
        QuorumNodes x = alone();
        x.join(7, 0);
        deliverAll(x);
        x.write(7, 0, 6);
        exchange(x, QUERY, 7, 0);
        work("in no set", x, 7, 1, 2, 2, 0, 0, 1, 0, 1, 7, 0);
        cellIs("its own, ahead of the others", x, 7, 0, 1, 7, 6);
        exchange(x, STORE, 7, 0);
        x.join(6, 0);
        deliverAll(x);
        cellIs("6 was told as it joined", x, 6, 0, 1, 7, 6);
        x.write(0, 0, 9);
        x.read(6, 0);
        exchange(x, QUERY, 6, 0);
        cellIs("of a READ in no set", x, 6, 0, 2, 0, 9);
    }

    @Says("their cell becomes this, if that is greater")
    static void part2_store_ifThatIsGreater() {
        QuorumNodes x = new QuorumNodes(3, 1, 3);
        x.write(0, 0, 4);
        x.write(1, 0, 5);
        x.twice(find(x, STORE, 1, 2));
        pass(x, STORE, 0, 2);
        cellIs("greater than (0, 0)", x, 2, 0, 1, 0, 4);
        pass(x, STORE, 1, 2);
        cellIs("greater by its writer", x, 2, 0, 1, 1, 5);
        int before = x.count(2);
        pass(x, STORE, 1, 2);
        cellIs("the same", x, 2, 0, 1, 1, 5);
        pass(x, STORE, 1, 0);
        cellIs("greater than its own", x, 0, 0, 1, 1, 5);
        pass(x, STORE, 0, 1);
        cellIs("less", x, 1, 0, 1, 1, 5);
        C.same("one write", x.count(2), before + 1);
        C.same("each is STORED", x.message(x.count(0) - 1, 0), STORED);
    }

    @Says("ENOUGH: of each ACTIVE configuration at least W. It is DONE: its result is BEST's value")
    static void part2_enough_atLeastW() {
        QuorumNodes x = new QuorumNodes(5, 2, 4);
        x.write(4, 0, 9);
        exchange(x, QUERY, 4, 0);
        exchange(x, STORE, 4, 0);
        exchange(x, STORE, 4, 1);
        C.same("W - 1", x.task(4, 2), 2);
        exchange(x, STORE, 4, 3);
        work("W", x, 4, 1, 2, 0, 0, 9, 31, 27, 1, 4, 0);
    }

    @Says("ENOUGH: of each ACTIVE configuration at least W. It is DONE: its result is BEST's value")
    static void part2_enough_wOfEach() {
        QuorumNodes x = alone();
        x.propose(0, 6, 2, 2);
        x.join(1, 0);
        x.join(2, 0);
        deliverAll(x);
        x.write(0, 0, 9);
        exchange(x, QUERY, 0, 1);
        exchange(x, QUERY, 0, 2);
        work("index 0 has W", x, 0, 2, 2, 2, 0, 0, 7, 1);
        exchange(x, STORE, 0, 2);
        work("index 1 has W - 1", x, 0, 2, 2, 2, 0, 0, 7, 5);
        exchange(x, STORE, 0, 1);
        work("W of each", x, 0, 2, 2, 0, 0, 9, 7, 7);
    }

    // ---- READ, WRITE: the task LOOKS

    /** Node 0 has found (1, 1) in phase 1; then it hears that index 0 is RETIRED. */
    private static QuorumNodes retiredInPhase1() {
        QuorumNodes x = new QuorumNodes(3, 3, 1);
        x.write(1, 0, 7);
        exchange(x, QUERY, 1, 0);
        exchange(x, QUERY, 1, 2);
        loseAll(x);
        x.read(0, 0);
        exchange(x, QUERY, 0, 1);
        loseAll(x);
        work("it has found (1, 1)", x, 0, 2, 1, 1, 0, 0, 7, 3, 1, 1, 0);
        x.propose(2, 4, 1, 1);
        exchange(x, PREPARE, 2, 0);
        exchange(x, PREPARE, 2, 1);
        loseAll(x);
        x.retire(2);
        exchange(x, COLLECT, 2, 0);
        work("index 1 alone is no reason", x, 0, 2, 1, 1, 0, 0, 7, 3, 1, 1, 0);
        C.same("SERIAL", x.node(0, 5), 1);
        exchange(x, COLLECT, 2, 1);
        mapIs("RETIRED", x, 2, 0, 2);
        loseAll(x);
        x.gossip(2, 0);
        return x;
    }

    @Says("in phase 1, if a configuration that was ACTIVE ahead of the message is RETIRED now, the phase begins anew (BEST, too)")
    static void part2_looks_thePhaseBeginsAnew() {
        QuorumNodes x = retiredInPhase1();
        x.deliver(0);
        work("phase 1 anew", x, 0, 2, 1, 1, 0, 0, 4, 0);
        C.same("the next SERIAL", x.node(0, 5), 2);
        C.same("one is asked", x.count(0), 1);
        letter("of the new set alone", x, 0, QUERY, 0, 2, 1, 2, 0, 0, 0, 0, 1);
    }

    /** BEST is of its own cell as the phase begins anew; what the GOSSIP tells comes to it behind that. */
    @Says("the phase begins anew (BEST, too)")
    static void part2_looks_bestToo() {
        QuorumNodes x = retiredInPhase1();
        x.deliver(0);
        cellIs("what the GOSSIP tells", x, 0, 0, 1, 1, 7);
        work("BEST", x, 0, 2, 1, 1, 0, 0, 4, 0, 0, 0, 0);
    }

    @Says("else the nodes of ACTIVE configurations are asked (that were not yet)")
    static void part2_looks_elseAsked_inPhase1() {
        QuorumNodes x = pair();
        x.read(0, 0);
        loseAll(x);
        int serial = x.node(0, 5);
        x.propose(1, 12, 1, 2);
        x.gossip(1, 0);
        x.deliver(0);
        work("asked in the same phase", x, 0, 2, 1, 1, 0, 0, 15, 1);
        C.same("the same SERIAL", x.node(0, 5), serial);
        letter("to 2", x, 0, QUERY, 0, 2, 1, serial, 0, 0, 0, 0, 2);
        letter("to 3", x, 1, QUERY, 0, 3, 1, serial, 0, 0, 0, 0, 2);
        C.same("both", x.count(0), 2);
    }

    /** In phase 2 a RETIRED configuration is no reason to begin anew. */
    @Says("else the nodes of ACTIVE configurations are asked (that were not yet)")
    static void part2_looks_elseAsked_inPhase2() {
        QuorumNodes x = new QuorumNodes(3, 1, 3);
        x.write(0, 0, 5);
        C.same("phase 2", x.task(0, 2), 2);
        loseAll(x);
        x.propose(1, 10, 2, 1);
        exchange(x, ACCEPT, 1, 0);
        exchange(x, ACCEPT, 1, 2);
        loseAll(x);
        x.retire(1);
        exchange(x, COLLECT, 1, 0);
        letter("it LOOKS: STORE to 3 in the same phase", x, find(x, STORE, 0, 3), STORE, 0, 3, 1, 2, 0, 1, 0, 5, 1);
        exchange(x, COLLECT, 1, 2);
        mapIs("RETIRED", x, 1, 0, 2);
        loseAll(x);
        x.gossip(1, 0);
        x.deliver(0);
        work("phase 2 goes on", x, 0, 1, 2, 2, 0, 0, 15, 1, 1, 0, 0);
        C.same("the same SERIAL", x.node(0, 5), 2);
        C.same("none is asked twice", x.count(0), 0);
        C.same("again", x.again(0), 3);
        exchange(x, STORE, 0, 1);
        work("W of what is left", x, 0, 1, 2, 0, 0, 5, 15, 3);
    }
}
