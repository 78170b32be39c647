/** For each sentence of promises 1 to 6 that names a boundary a test of its own. */
public final class TaskSentencesTest extends Runs {
    /** A call that starts a task of a node. */
    private interface Start {
        int on(QuorumNodes x, int node);
    }

    private static final Start READS = (x, node) -> x.read(node, 0);
    private static final Start WRITES = (x, node) -> x.write(node, 0, 5);
    private static final Start PROPOSES = (x, node) -> x.propose(node, 1, 1, 1);
    private static final Start RETIRES = (x, node) -> x.retire(node);

    public static void main(String[] args) throws Exception {
        Sentences.run(TaskSentencesTest.class, args, C);
    }

    /** The call is refused and leaves all as it was. */
    private static void none(String name, QuorumNodes x, int node, Start start) {
        String before = seen(x, node);
        C.same(name, start.on(x, node), NONE);
        C.yes(name + " changes nothing", seen(x, node).equals(before));
    }

    private static void noSuchNode(QuorumNodes x, Start start) {
        for (int no : NO_NODES) {
            none("node " + no, x, no, start);
        }
    }

    private static void notUp(QuorumNodes x, Start start) {
        none("ABSENT", x, 7, start);
        x.crash(0);
        none("DOWN", x, 0, start);
        x.restart(0);
        C.same("UP again", start.on(x, 0), x.count(1));
        C.yes("that is a task", x.count(1) > 0);
    }

    private static void noActive(QuorumNodes x, Start start) {
        x.join(7, 0);
        none("UP, but it knows of none", x, 7, start);
        deliverAll(x);
        C.same("it knows of one", x.node(7, 3), 0);
        C.yes("then it may", start.on(x, 7) > 0);
    }

    /** Node 0 of two has tasks of all kinds that wait for node 1. */
    private static void notDone(Start start) {
        QuorumNodes x = new QuorumNodes(2, 2, 2);
        x.propose(0, 3, 2, 2);
        none("a PROPOSAL in phase 1", x, 0, start);
        exchange(x, PREPARE, 0, 1);
        none("a PROPOSAL in phase 2", x, 0, start);
        exchange(x, ACCEPT, 0, 1);
        x.retire(0);
        none("a RETIREMENT in phase 1", x, 0, start);
        exchange(x, COLLECT, 0, 1);
        none("a RETIREMENT in phase 2", x, 0, start);
        exchange(x, SPREAD, 0, 1);
        C.same("DONE: then it may", start.on(x, 0), 3);

        QuorumNodes y = new QuorumNodes(2, 2, 2);
        y.read(0, 0);
        none("a READ in phase 1", y, 0, start);
        exchange(y, QUERY, 0, 1);
        none("a READ in phase 2", y, 0, start);
        exchange(y, STORE, 0, 1);
        y.write(0, 0, 1);
        none("a WRITE in phase 1", y, 0, start);
        exchange(y, QUERY, 0, 1);
        none("a WRITE in phase 2", y, 0, start);
        exchange(y, STORE, 0, 1);
        C.same("DONE: then it may", start.on(y, 0), 3);
    }

    // ---- what it is

    @Says("An object is used for at most 512 calls after it has been made")
    static void whatItIs_512Calls() {
        QuorumNodes x = alone();
        for (int i = 1; i < 512; i++) {
            C.same("write", x.write(0, 0, -i), i);
        }
        C.same("the 512th call", x.cell(0, 0, 0), 511);
        QuorumNodes y = new QuorumNodes(8, 8, 1);
        y.propose(7, 1, 1, 1);
        for (int i = 2; i < 512; i++) {
            C.same("again", y.again(7), 7);
        }
        C.same("the 512th call", y.task(7, 9), 8 * 511 + 7);
        QuorumNodes z = new QuorumNodes(1, 1, 1);
        for (int i = 1; i < 256; i++) {
            z.crash(0);
            C.yes("restart", z.restart(0));
        }
        C.same("INCARNATION", z.node(0, 1), 256);
    }

    // ---- promise 1

    private static void firstIs(int n, int r, int w, int nodes, int configuration) {
        String name = "new QuorumNodes(" + n + ", " + r + ", " + w + ")";
        QuorumNodes x = new QuorumNodes(n, r, w);
        for (int node = 0; node < 8; node++) {
            boolean in = node < nodes;
            C.same(name + ": node(" + node + ", 0)", x.node(node, 0), in ? 1 : 0);
            mapIs(name, x, node, 0, in ? 1 : 0, in ? configuration : 0);
        }
        countIs(name, x, 0, 0, 0, nodes, 0);
    }

    @Says("n nodes (1 to 8) at first, with R r and W w")
    static void promise1_nNodes1To8_theFewest() {
        firstIs(1, 1, 1, 1, code(1, 1, 1));
    }

    @Says("n nodes (1 to 8) at first, with R r and W w")
    static void promise1_nNodes1To8_theMost() {
        firstIs(8, 8, 8, 8, code(255, 8, 8));
        firstIs(8, 1, 8, 8, code(255, 1, 8));
        firstIs(8, 8, 1, 8, code(255, 8, 1));
    }

    @Says("n nodes (1 to 8) at first, with R r and W w")
    static void promise1_nNodes1To8_inside() {
        firstIs(2, 1, 2, 2, code(3, 1, 2));
        firstIs(7, 5, 4, 7, code(127, 5, 4));
        firstIs(3, 2, 2, 3, code(7, 2, 2));
    }

    @Says("a number outside is the nearest one")
    static void promise1_aNumberOutsideIsTheNearestOne_nTooSmall() {
        firstIs(0, 1, 1, 1, code(1, 1, 1));
        firstIs(-1, 1, 1, 1, code(1, 1, 1));
        firstIs(LEAST, 1, 1, 1, code(1, 1, 1));
    }

    @Says("a number outside is the nearest one")
    static void promise1_aNumberOutsideIsTheNearestOne_nTooLarge() {
        firstIs(9, 4, 6, 8, code(255, 4, 6));
        firstIs(256, 4, 6, 8, code(255, 4, 6));
        firstIs(MOST, 4, 6, 8, code(255, 4, 6));
    }

    @Says("a number outside is the nearest one")
    static void promise1_aNumberOutsideIsTheNearestOne_rTooSmall() {
        firstIs(4, 0, 4, 4, code(15, 1, 4));
        firstIs(4, -1, 4, 4, code(15, 1, 4));
        firstIs(4, LEAST, 4, 4, code(15, 1, 4));
    }

    @Says("a number outside is the nearest one")
    static void promise1_aNumberOutsideIsTheNearestOne_rTooLarge() {
        firstIs(4, 5, 3, 4, code(15, 4, 3));
        firstIs(4, 9, 3, 4, code(15, 4, 3));
        firstIs(4, MOST, 3, 4, code(15, 4, 3));
    }

    @Says("a number outside is the nearest one")
    static void promise1_aNumberOutsideIsTheNearestOne_wTooSmall() {
        firstIs(4, 4, 0, 4, code(15, 4, 1));
        firstIs(4, 4, -1, 4, code(15, 4, 1));
        firstIs(4, 4, LEAST, 4, code(15, 4, 1));
    }

    @Says("a number outside is the nearest one")
    static void promise1_aNumberOutsideIsTheNearestOne_wTooLarge() {
        firstIs(4, 3, 5, 4, code(15, 3, 4));
        firstIs(4, 3, 9, 4, code(15, 3, 4));
        firstIs(4, 3, MOST, 4, code(15, 3, 4));
    }

    @Says("a number outside is the nearest one")
    static void promise1_aNumberOutsideIsTheNearestOne_rAndWOfTheNearestN() {
        firstIs(0, 5, 5, 1, code(1, 1, 1));
        firstIs(MOST, MOST, MOST, 8, code(255, 8, 8));
        firstIs(MOST, LEAST, MOST, 8, code(255, 1, 8));
        firstIs(LEAST, MOST, LEAST, 1, code(1, 1, 1));
    }

    @Says("w rises to n + 1 - r, if it is less")
    static void promise1_wRises_ifItIsLess() {
        firstIs(5, 2, 1, 5, code(31, 2, 4));
        firstIs(5, 2, 3, 5, code(31, 2, 4));
        firstIs(8, 1, 1, 8, code(255, 1, 8));
        firstIs(2, 1, 1, 2, code(3, 1, 2));
    }

    @Says("w rises to n + 1 - r, if it is less")
    static void promise1_wRises_notIfItIsNotLess() {
        firstIs(5, 2, 4, 5, code(31, 2, 4));
        firstIs(5, 2, 5, 5, code(31, 2, 5));
        firstIs(5, 5, 1, 5, code(31, 5, 1));
        firstIs(5, 5, 2, 5, code(31, 5, 2));
    }

    @Says("w rises to n + 1 - r, if it is less")
    static void promise1_wRises_byTheNearestNumbers() {
        firstIs(LEAST, LEAST, LEAST, 1, code(1, 1, 1));
        firstIs(MOST, LEAST, LEAST, 8, code(255, 1, 8));
        firstIs(6, MOST, LEAST, 6, code(63, 6, 1));
        firstIs(6, -2, 3, 6, code(63, 1, 6));
        firstIs(9, 7, 1, 8, code(255, 7, 2));
    }

    // ---- promise 2

    @Says("the task's number (tasks of all nodes are numbered from 1 on")
    static void promise2_tasksOfAllNodesAreNumberedFrom1On() {
        QuorumNodes x = new QuorumNodes(3, 2, 2);
        C.same("read by 2", x.read(2, 0), 1);
        C.same("read by 0", x.read(0, 3), 2);
        C.same("read by 1", x.read(1, 0), 3);
        C.same("of 2", x.task(2, 0), 1);
        C.same("of 0", x.task(0, 0), 2);
        deliverAll(x);
        C.same("read by 2", x.read(2, 0), 4);
    }

    @Says("also one with which its node goes down")
    static void promise2_alsoOneWithWhichItsNodeGoesDown() {
        QuorumNodes x = new QuorumNodes(2, 1, 2);
        x.arm(0, 1);
        C.same("write", x.write(0, 0, 5), DOWN);
        C.same("tasks", x.count(1), 1);
        C.same("the next one", x.read(1, 0), 2);
    }

    @Says("NONE: no such node or object")
    static void promise2_noSuchNode() {
        QuorumNodes x = new QuorumNodes(8, 1, 8);
        noSuchNode(x, READS);
        C.same("the last one", x.read(7, 0), 1);
        C.same("the first one", x.read(0, 0), 2);
    }

    @Says("NONE: no such node or object")
    static void promise2_noSuchObject() {
        QuorumNodes x = new QuorumNodes(3, 2, 2);
        for (int no : NO_OBJECTS) {
            none("object " + no, x, 0, (y, node) -> y.read(node, no));
        }
        C.same("the last one", x.read(0, 3), 1);
        C.same("the first one", x.read(1, 0), 2);
    }

    @Says("it is not UP")
    static void promise2_itIsNotUp() {
        notUp(new QuorumNodes(3, 2, 2), READS);
    }

    @Says("its MAP has no ACTIVE configuration")
    static void promise2_itsMapHasNoActiveConfiguration() {
        noActive(new QuorumNodes(3, 2, 2), READS);
    }

    @Says("or it has a task that is not DONE")
    static void promise2_itHasATaskThatIsNotDone() {
        notDone(READS);
    }

    /** What a READ begins with is its own cell: the call itself writes nothing, a later message may. */
    @Says("DOWN: it goes down by this")
    static void promise2_down_notByTheCallItself() {
        QuorumNodes x = new QuorumNodes(2, 2, 1);
        x.write(1, 0, 5);
        exchange(x, QUERY, 1, 0);
        loseAll(x);
        x.arm(0, 1);
        C.same("read", x.read(0, 0), 2);
        nodeIs("it is UP, and armed still", x, 0, 1, 1, 0, 0, 0, 1, 1);
        exchange(x, QUERY, 0, 1);
        nodeIs("it goes down as BEST goes to its own cell", x, 0, 2, 1, 0, 0, 0, 0, 0);
        C.same("no STORE", x.count(0), 0);
        QuorumNodes one = alone();
        one.arm(0, 1);
        C.same("read alone", one.read(0, 0), 1);
        nodeIs("UP, and armed still", one, 0, 1, 1, 0, 0, 0, 2, 1);
    }

    // ---- promise 3

    @Says("A WRITE of v, likewise")
    static void promise3_aWriteOfV_anyValue() {
        QuorumNodes x = alone();
        int task = 0;
        for (int v : new int[] {0, -1, 1, DOWN, LEAST, MOST}) {
            task++;
            C.same("write", x.write(0, 3, v), task);
            work("DONE", x, 0, task, 2, 0, 3, v, 1, 1, task, 0, 0);
            cellIs("written", x, 0, 3, task, 0, v);
        }
    }

    @Says("A WRITE of v, likewise")
    static void promise3_likewise_theTasksNumber() {
        QuorumNodes x = new QuorumNodes(3, 2, 2);
        C.same("write by 2", x.write(2, 0, 9), 1);
        C.same("write by 0", x.write(0, 3, 9), 2);
        C.same("of 2", x.task(2, 0), 1);
    }

    @Says("A WRITE of v, likewise")
    static void promise3_likewise_noSuchNode() {
        QuorumNodes x = new QuorumNodes(8, 1, 8);
        noSuchNode(x, WRITES);
        C.same("the last one", x.write(7, 0, 5), 1);
        C.same("the first one", x.write(0, 0, 5), 2);
    }

    @Says("A WRITE of v, likewise")
    static void promise3_likewise_noSuchObject() {
        QuorumNodes x = new QuorumNodes(3, 2, 2);
        for (int no : NO_OBJECTS) {
            none("object " + no, x, 0, (y, node) -> y.write(node, no, 5));
        }
        C.same("the last one", x.write(0, 3, 5), 1);
        C.same("the first one", x.write(1, 0, 5), 2);
    }

    @Says("A WRITE of v, likewise")
    static void promise3_likewise_itIsNotUp() {
        notUp(new QuorumNodes(3, 2, 2), WRITES);
    }

    @Says("A WRITE of v, likewise")
    static void promise3_likewise_noActiveConfiguration() {
        noActive(new QuorumNodes(3, 2, 2), WRITES);
    }

    @Says("A WRITE of v, likewise")
    static void promise3_likewise_aTaskThatIsNotDone() {
        notDone(WRITES);
    }

    @Says("A WRITE of v, likewise")
    static void promise3_likewise_down() {
        QuorumNodes x = alone();
        x.arm(0, 1);
        C.same("write", x.write(0, 0, 5), DOWN);
        nodeIs("DOWN", x, 0, 2, 1, 0, 0, 0, 0, 0);
        cellIs("not written", x, 0, 0, 0, 0, 0);
        countIs("a task, no write", x, 0, 1, 0, 0, 0);
        QuorumNodes y = alone();
        y.arm(0, 2);
        C.same("one write alone", y.write(0, 0, 5), 1);
        C.same("UP", y.node(0, 0), 1);
    }

    // ---- promise 4

    private static void isNone(int set, int r, int w) {
        none("set " + set + ", R " + r + ", W " + w, new QuorumNodes(3, 2, 2), 0, (x, node) -> x.propose(node, set, r, w));
    }

    private static void isOne(int set, int r, int w) {
        QuorumNodes x = alone();
        C.same("set " + set + ", R " + r + ", W " + w, x.propose(0, set, r, w), 1);
        mapIs("it is", x, 0, 1, 1, set + 256 * r + 4096 * w);
    }

    @Says("A PROPOSAL of the configuration of a set with R r and W w")
    static void promise4_theConfigurationOfASet_theFewest() {
        isOne(1, 1, 1);
        isOne(128, 1, 1);
    }

    @Says("A PROPOSAL of the configuration of a set with R r and W w")
    static void promise4_theConfigurationOfASet_theMost() {
        isOne(255, 8, 8);
        isOne(255, 1, 8);
        isOne(255, 8, 1);
    }

    @Says("NONE also if that is none")
    static void promise4_noneIfThatIsNone_anEmptySet() {
        isNone(0, 1, 1);
        isNone(0, 0, 0);
        isNone(0, 0, 1);
    }

    @Says("NONE also if that is none")
    static void promise4_noneIfThatIsNone_aSetOfNoSuchNodes() {
        isNone(256, 1, 1);
        isNone(257, 1, 2);
        isNone(257, 2, 2);
        isNone(511, 5, 5);
        isNone(MOST, 8, 8);
    }

    @Says("NONE also if that is none")
    static void promise4_noneIfThatIsNone_aSetBelow0() {
        isNone(-1, 8, 8);
        isNone(-255, 1, 1);
        isNone(LEAST, 1, 1);
        isNone(LEAST + 1, 2, 2);
    }

    @Says("NONE also if that is none")
    static void promise4_noneIfThatIsNone_rTooSmall() {
        isNone(7, 0, 3);
        isNone(7, -1, 3);
        isNone(7, LEAST, 3);
        isOne(7, 1, 3);
    }

    @Says("NONE also if that is none")
    static void promise4_noneIfThatIsNone_rTooLarge() {
        isNone(7, 4, 1);
        isNone(7, 4, 3);
        isNone(7, MOST, 3);
        isOne(7, 3, 1);
    }

    @Says("NONE also if that is none")
    static void promise4_noneIfThatIsNone_wTooSmall() {
        isNone(7, 3, 0);
        isNone(7, 3, -1);
        isNone(7, 3, LEAST);
    }

    @Says("NONE also if that is none")
    static void promise4_noneIfThatIsNone_wTooLarge() {
        isNone(7, 1, 4);
        isNone(7, 3, 4);
        isNone(7, 3, MOST);
        isNone(7, MOST, MOST);
    }

    @Says("NONE also if that is none")
    static void promise4_noneIfThatIsNone_togetherNotMore() {
        isNone(7, 1, 2);
        isNone(7, 2, 1);
        isNone(7, 1, 1);
        isNone(255, 4, 4);
        isOne(7, 2, 2);
        isOne(255, 4, 5);
    }

    @Says("or there is no index behind the greatest ACTIVE one")
    static void promise4_noIndexBehindTheGreatestActiveOne() {
        QuorumNodes x = alone(1, 1, 1, 1, 1, 1, 1, 1, 1, 1, 1, 1, 1, 1);
        nodeIs("14 is ACTIVE", x, 0, 1, 1, 14, 0, 14);
        C.same("the last index", x.propose(0, 1, 1, 1), 15);
        nodeIs("15 is ACTIVE", x, 0, 1, 1, 15, 0, 15);
        none("none behind 15", x, 0, PROPOSES);
        x.retire(0);
        nodeIs("15 alone", x, 0, 1, 1, 15, 15, 15);
        none("none behind 15 still", x, 0, PROPOSES);
        C.same("other tasks may be", x.write(0, 0, 1), 17);
    }

    @Says("likewise")
    static void promise4_likewise_theTasksNumber() {
        QuorumNodes x = new QuorumNodes(3, 2, 2);
        C.same("propose by 1", x.propose(1, 1, 1, 1), 1);
        C.same("propose by 0", x.propose(0, 1, 1, 1), 2);
        C.same("of 1", x.task(1, 0), 1);
    }

    @Says("likewise")
    static void promise4_likewise_noSuchNode() {
        QuorumNodes x = new QuorumNodes(8, 1, 8);
        noSuchNode(x, PROPOSES);
        C.same("the last one", x.propose(7, 1, 1, 1), 1);
        C.same("the first one", x.propose(0, 1, 1, 1), 2);
    }

    @Says("likewise")
    static void promise4_likewise_itIsNotUp() {
        notUp(new QuorumNodes(3, 2, 2), PROPOSES);
    }

    @Says("likewise")
    static void promise4_likewise_noActiveConfiguration() {
        noActive(new QuorumNodes(3, 2, 2), PROPOSES);
    }

    @Says("likewise")
    static void promise4_likewise_aTaskThatIsNotDone() {
        notDone(PROPOSES);
    }

    @Says("likewise")
    static void promise4_likewise_down() {
        int c = code(1, 1, 1);
        int[][] due = {{0, 0, 0, 0, 0, 0}, {1, 0, 0, 0, 0, 0}, {1, 0, 0, 8, 0, 0}, {1, 0, 0, 8, 8, c}};
        for (int n = 1; n <= 4; n++) {
            QuorumNodes x = alone();
            x.arm(0, n);
            C.same("propose", x.propose(0, 1, 1, 1), DOWN);
            nodeIs("armed with " + n, x, 0, 2, 1, due[n - 1][0], 0, 0, 0, 0);
            mapIs("armed with " + n, x, 0, 1, due[n - 1][1], due[n - 1][2], due[n - 1][3], due[n - 1][4], due[n - 1][5]);
            countIs("armed with " + n, x, 0, 1, n - 1, 0, 0);
        }
        QuorumNodes y = alone();
        y.arm(0, 5);
        C.same("four writes alone", y.propose(0, 1, 1, 1), 1);
        nodeIs("UP", y, 0, 1, 1, 1, 0, 1, 2, 1);
    }

    // ---- promise 5

    @Says("NONE also if there is one ACTIVE configuration alone")
    static void promise5_oneActiveConfigurationAlone() {
        QuorumNodes x = alone();
        none("the first one", x, 0, RETIRES);
        x.propose(0, 1, 1, 1);
        C.same("two are ACTIVE", x.retire(0), 2);
        mapIs("the first one", x, 0, 0, 2);
        mapIs("the second one", x, 0, 1, 1);
        none("one is left", x, 0, RETIRES);
    }

    @Says("A RETIREMENT, likewise")
    static void promise5_likewise_theTasksNumber() {
        QuorumNodes x = alone(2);
        x.join(1, 0);
        deliverAll(x);
        C.same("retire by 1", x.retire(1), 2);
        C.same("retire by 0", x.retire(0), 3);
        C.same("of 1", x.task(1, 0), 2);
    }

    @Says("A RETIREMENT, likewise")
    static void promise5_likewise_noSuchNode() {
        QuorumNodes x = alone(129);
        noSuchNode(x, RETIRES);
        x.join(7, 0);
        deliverAll(x);
        C.same("the last one", x.retire(7), 2);
        C.same("the first one", x.retire(0), 3);
    }

    @Says("A RETIREMENT, likewise")
    static void promise5_likewise_itIsNotUp() {
        notUp(alone(1), RETIRES);
    }

    @Says("A RETIREMENT, likewise")
    static void promise5_likewise_noActiveConfiguration() {
        noActive(alone(1), RETIRES);
    }

    /** All that hinders it here is the task: two are ACTIVE. */
    @Says("A RETIREMENT, likewise")
    static void promise5_likewise_aTaskThatIsNotDone() {
        QuorumNodes x = alone(3);
        x.join(1, 0);
        deliverAll(x);
        x.retire(0);
        loseAll(x);
        none("a RETIREMENT", x, 0, RETIRES);
        x.crash(0);
        x.restart(0);
        x.write(0, 0, 1);
        none("a WRITE in phase 2", x, 0, RETIRES);
        exchange(x, STORE, 0, 1);
        C.same("DONE", x.task(0, 2), 0);
        x.propose(0, 1, 1, 1);
        none("a PROPOSAL", x, 0, RETIRES);
        x.crash(0);
        x.restart(0);
        x.read(0, 0);
        none("a READ", x, 0, RETIRES);
        x.crash(0);
        x.restart(0);
        C.same("then it may", x.retire(0), 6);
    }

    @Says("A RETIREMENT, likewise")
    static void promise5_likewise_down() {
        QuorumNodes x = alone(1, 1);
        x.arm(0, 1);
        C.same("at the first one", x.retire(0), DOWN);
        mapIs("not RETIRED", x, 0, 0, 1, code(1, 1, 1));
        mapIs("not RETIRED", x, 0, 1, 1, code(1, 1, 1));
        C.same("a task", x.count(1), 3);
        x.restart(0);
        x.arm(0, 2);
        C.same("at the second one", x.retire(0), DOWN);
        mapIs("RETIRED", x, 0, 0, 2, code(1, 1, 1));
        mapIs("not RETIRED", x, 0, 1, 1, code(1, 1, 1));
        x.restart(0);
        x.arm(0, 2);
        C.same("one is left", x.retire(0), 5);
        nodeIs("UP", x, 0, 1, 3, 2, 2, 2, 2, 1);
    }

    // ---- promise 6

    @Says("NONE: no such node, it is not UP, or it has no such task")
    static void promise6_noSuchNode() {
        QuorumNodes x = new QuorumNodes(8, 8, 8);
        x.read(0, 0);
        x.read(7, 0);
        for (int no : NO_NODES) {
            none("node " + no, x, no, (y, node) -> y.again(node));
        }
        C.same("the first one", x.again(0), 7);
        C.same("the last one", x.again(7), 7);
    }

    @Says("NONE: no such node, it is not UP, or it has no such task")
    static void promise6_itIsNotUp() {
        QuorumNodes x = new QuorumNodes(2, 2, 2);
        x.read(0, 0);
        x.crash(0);
        none("DOWN", x, 0, (y, node) -> y.again(node));
        none("ABSENT", x, 7, (y, node) -> y.again(node));
        x.restart(0);
        none("UP, the task is forgotten", x, 0, (y, node) -> y.again(node));
    }

    @Says("NONE: no such node, it is not UP, or it has no such task")
    static void promise6_itHasNoSuchTask() {
        QuorumNodes x = new QuorumNodes(2, 2, 2);
        none("none so far", x, 0, (y, node) -> y.again(node));
        x.read(0, 0);
        exchange(x, QUERY, 0, 1);
        exchange(x, STORE, 0, 1);
        none("DONE", x, 0, (y, node) -> y.again(node));
        x.propose(0, 1, 1, 1);
        exchange(x, PREPARE, 0, 1);
        exchange(x, ACCEPT, 0, 1);
        none("a PROPOSAL that is DONE", x, 0, (y, node) -> y.again(node));
    }

    @Says("those that were ASKED in this phase and have not ANSWERED, by numbers, are sent their requests")
    static void promise6_thoseAskedAndNotAnswered() {
        QuorumNodes x = new QuorumNodes(5, 3, 3);
        x.write(2, 1, 8);
        exchange(x, QUERY, 2, 1);
        loseAll(x);
        C.same("0, 3 and 4", x.again(2), 3);
        C.same("sent", x.count(0), 3);
        letter("to 0", x, 0, QUERY, 2, 0, 1, 1, 1, 0, 0, 0, 0);
        letter("to 3", x, 1, QUERY, 2, 3, 1, 1, 1, 0, 0, 0, 0);
        letter("to 4", x, 2, QUERY, 2, 4, 1, 1, 1, 0, 0, 0, 0);
        work("as before", x, 2, 1, 2, 1, 1, 0, 31, 6);
    }

    @Says("are sent their requests as they are in this phase, with its SERIAL")
    static void promise6_asTheyAreInThisPhase() {
        QuorumNodes x = new QuorumNodes(3, 2, 2);
        x.write(2, 1, 8);
        exchange(x, QUERY, 2, 0);
        loseAll(x);
        C.same("phase 2", x.task(2, 2), 2);
        C.same("0 and 1", x.again(2), 2);
        letter("to 0", x, 0, STORE, 2, 0, 1, 2, 1, 1, 2, 8, 0);
        letter("to 1", x, 1, STORE, 2, 1, 1, 2, 1, 1, 2, 8, 0);
        C.same("SERIAL stays", x.node(2, 5), 2);
        C.same("once more", x.again(2), 2);
        C.same("four", x.count(0), 4);
        QuorumNodes y = alone(6);
        C.same("a RETIREMENT", y.retire(0), 2);
        loseAll(y);
        int serial = y.node(0, 5);
        C.same("1 and 2", y.again(0), 2);
        letter("SPREAD", y, 1, SPREAD, 0, 2, 1, serial, 0, 0, 0, 0, 1);
        C.same("SERIAL stays", y.node(0, 5), serial);
    }

    @Says("a PROPOSAL begins with phase 1 anew instead")
    static void promise6_aProposalBeginsAnew_inPhase1() {
        QuorumNodes x = new QuorumNodes(3, 3, 1);
        x.propose(0, 1, 1, 1);
        exchange(x, PREPARE, 0, 1);
        loseAll(x);
        work("1 has ANSWERED", x, 0, 1, 3, 1, 1, 0, 7, 3, 0, 0, 8);
        C.same("again", x.again(0), 2);
        work("anew", x, 0, 1, 3, 1, 1, 0, 7, 1, 0, 0, 16);
        nodeIs("ROUND and SERIAL", x, 0, 1, 1, 2, 0, 0, 2, 0);
        letter("to 1, too", x, 0, PREPARE, 0, 1, 1, 2, 1, 16, 0, 0, 0);
        letter("to 2", x, 1, PREPARE, 0, 2, 1, 2, 1, 16, 0, 0, 0);
        C.same("both", x.count(0), 2);
    }

    @Says("a PROPOSAL begins with phase 1 anew instead")
    static void promise6_aProposalBeginsAnew_inPhase2() {
        QuorumNodes x = new QuorumNodes(3, 2, 2);
        x.propose(0, 1, 1, 1);
        exchange(x, PREPARE, 0, 1);
        loseAll(x);
        work("phase 2", x, 0, 1, 3, 2, 1, 0, 7, 1, 0, 0, 8);
        C.same("again", x.again(0), 2);
        work("phase 1", x, 0, 1, 3, 1, 1, 0, 7, 1, 0, 0, 16);
        letter("to 1", x, 0, PREPARE, 0, 1, 1, 3, 1, 16, 0, 0, 0);
    }

    @Says("How many were ASKED in its latest phase and have not ANSWERED then")
    static void promise6_howMany_ofThePhaseThatIsThen() {
        QuorumNodes x = new QuorumNodes(4, 1, 4);
        x.propose(3, 1, 1, 1);
        work("R is 1: phase 2", x, 3, 1, 3, 2, 1, 0, 15, 8, 0, 0, 11);
        exchange(x, ACCEPT, 3, 0);
        loseAll(x);
        C.same("0 has ANSWERED, but not then", x.again(3), 3);
        work("phase 2 once more", x, 3, 1, 3, 2, 1, 0, 15, 8, 0, 0, 19);
    }

    /** Node 0, alone in the set, has PROMISED more than its own ROUND; the second time it is DONE. */
    @Says("How many were ASKED in its latest phase and have not ANSWERED then")
    static void promise6_howMany_0OfOneThatIsDoneByIt() {
        QuorumNodes x = alone();
        x.join(1, 0);
        deliverAll(x);
        x.propose(1, 2, 1, 1);
        x.again(1);
        x.deliver(1);
        mapIs("PROMISED to 1", x, 0, 1, 0, 0, 17, 0, 0);
        loseAll(x);
        x.propose(0, 1, 1, 1);
        work("REFUSED by itself", x, 0, 2, 3, 1, 1, 0, 1, 0, 0, 0, 8);
        C.same("ROUND", x.node(0, 2), 2);
        C.same("DONE by it", x.again(0), 0);
        work("DONE", x, 0, 2, 3, 0, 1, 1, 1, 1, 0, 0, 24);
    }

    /** The node itself is one of those that have not ANSWERED when it refuses its own PREPARE. */
    @Says("How many were ASKED in its latest phase and have not ANSWERED then")
    static void promise6_howMany_theNodeItselfToo() {
        QuorumNodes x = new QuorumNodes(2, 2, 2);
        x.propose(0, 1, 1, 1);
        x.propose(1, 2, 1, 1);
        x.again(1);
        x.again(1);
        x.again(1);
        pass(x, PREPARE, 1, 0);
        x.deliver(find(x, PREPARE, 1, 0));
        x.deliver(find(x, PREPARE, 1, 0));
        x.deliver(find(x, PREPARE, 1, 0));
        mapIs("0 has PROMISED to 1", x, 0, 1, 0, 0, 33, 0, 0);
        loseAll(x);
        C.same("both", x.again(0), 2);
        work("REFUSED by itself", x, 0, 1, 3, 1, 1, 0, 3, 0, 0, 0, 16);
        C.same("ROUND is that of what it PROMISED", x.node(0, 2), 4);
        C.same("only 1", x.again(0), 1);
        C.same("the next ballot", x.task(0, 9), 40);
    }

    @Says("How many were ASKED in its latest phase and have not ANSWERED then")
    static void promise6_howMany_alsoIfTheRequestsAreLost() {
        QuorumNodes x = new QuorumNodes(3, 3, 3);
        x.read(0, 0);
        fill(x, 1, 2, 120);
        C.same("again", x.again(0), 2);
        countIs("both are lost", x, 120, 1, 0, 3, 2);
    }

    @Says("DOWN: it goes down by this")
    static void promise6_down() {
        int[][] due = {{1, 8, 8}, {2, 8, 8}, {2, 16, 8}};
        for (int n = 1; n <= 3; n++) {
            QuorumNodes x = new QuorumNodes(2, 1, 2);
            x.propose(0, 1, 1, 1);
            loseAll(x);
            x.arm(0, n);
            C.same("armed with " + n, x.again(0), DOWN);
            nodeIs("armed with " + n, x, 0, 2, 1, due[n - 1][0], 0, 0, 0, 0);
            mapIs("armed with " + n, x, 0, 1, 0, 0, due[n - 1][1], due[n - 1][2], code(1, 1, 1));
            C.same("PREPARE", x.count(0), n == 3 ? 1 : 0);
            C.same("no task", x.task(0, 0), NONE);
        }
        QuorumNodes y = new QuorumNodes(2, 1, 2);
        y.propose(0, 1, 1, 1);
        y.arm(0, 4);
        C.same("three writes alone", y.again(0), 1);
        C.same("armed still", y.node(0, 6), 1);
    }

    @Says("are sent their requests as they are in this phase")
    static void promise6_asksAgain_isNoWrite() {
        QuorumNodes x = new QuorumNodes(2, 2, 2);
        x.write(0, 0, 5);
        x.arm(0, 1);
        C.same("in phase 1", x.again(0), 1);
        nodeIs("UP, and armed still", x, 0, 1, 1, 0, 0, 0, 1, 1);
    }
}
