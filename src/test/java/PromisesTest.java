/** For each promise of the document runs of calls whose answers were worked out by hand from its words. */
public final class PromisesTest extends Runs {
    public static void main(String[] args) {
        promise1();
        promise2Ordinary();
        promise2Wrong();
        promise2Looks();
        promise2LooksInPhase2();
        promise3();
        promise3Edges();
        promise4Wrong();
        promise4Indexes();
        promise4Agreement();
        promise4Greatest();
        promise4Refused();
        promise4LateRefusal();
        promise5();
        promise5Wrong();
        promise5Edges();
        promise6();
        promise7();
        promise8();
        promise9();
        promise9Incarnations();
        promise10And11();
        promise12And13();
        promise14();
        promise14EachWrite();
        promise15();
        promise16();
        promise17();
        promise18();
        promise19();
        promise20();
        C.end();
    }

    private static void promise1() {
        int[][] rows = {
            {3, 2, 2, 3, code(7, 2, 2)}, {1, 1, 1, 1, code(1, 1, 1)}, {8, 8, 8, 8, code(255, 8, 8)},
            {0, 0, 0, 1, code(1, 1, 1)}, {9, 99, 99, 8, code(255, 8, 8)}, {5, 2, 1, 5, code(31, 2, 4)},
            {4, -3, 2, 4, code(15, 1, 4)}, {4, 3, 1, 4, code(15, 3, 2)}, {4, 3, 4, 4, code(15, 3, 4)},
            {LEAST, MOST, LEAST, 1, code(1, 1, 1)}, {MOST, LEAST, MOST, 8, code(255, 1, 8)},
            {6, MOST, LEAST, 6, code(63, 6, 1)},
        };
        for (int[] row : rows) {
            String name = "new " + row[0] + ", " + row[1] + ", " + row[2];
            QuorumNodes x = new QuorumNodes(row[0], row[1], row[2]);
            for (int node = 0; node < 8; node++) {
                boolean in = node < row[3];
                nodeIs(name, x, node, in ? 1 : 0, 1, 0, in ? 0 : NONE, in ? 0 : NONE, 0, 0);
                mapIs(name, x, node, 0, in ? 1 : 0, in ? row[4] : 0, 0, 0, 0);
                mapIs(name, x, node, 1, 0, 0, 0, 0, 0);
                mapIs(name, x, node, 15, 0, 0, 0, 0, 0);
                cellIs(name, x, node, 0, 0, 0, 0);
                cellIs(name, x, node, 3, 0, 0, 0);
                C.same(name + ": task", x.task(node, 0), NONE);
            }
            for (int what = 0; what < 5; what++) {
                C.same(name + ": count", x.count(what), what == 3 ? row[3] : 0);
            }
        }
    }

    private static void promise2Ordinary() {
        QuorumNodes x = new QuorumNodes(3, 2, 2);
        C.same("write", x.write(0, 1, 7), 1);
        x.deliver(0);
        x.deliver(1);
        loseAll(x);
        C.same("read", x.read(2, 1), 2);
        work("read begins", x, 2, 2, 1, 1, 1, 0, 7, 4, 0, 0, 0);
        letter("QUERY", x, 0, 1, 2, 0, 1, 1, 1, 0, 0, 0, 0);
        letter("QUERY", x, 1, 1, 2, 1, 1, 1, 1, 0, 0, 0, 0);
        x.deliver(0);
        letter("ANSWER", x, 1, 2, 0, 2, 1, 1, 1, 1, 0, 7, 0);
        x.deliver(1);
        work("read has BEST", x, 2, 2, 1, 2, 1, 0, 7, 4, 1, 0, 0);
        cellIs("the reader's own", x, 2, 1, 1, 0, 7);
        cellIs("not asked yet", x, 1, 1, 0, 0, 0);
        letter("STORE", x, 2, 3, 2, 1, 1, 2, 1, 1, 0, 7, 0);
        x.deliver(2);
        cellIs("stored", x, 1, 1, 1, 0, 7);
        letter("STORED", x, 2, 4, 1, 2, 1, 2, 0, 0, 0, 0, 0);
        x.deliver(2);
        work("read is DONE", x, 2, 2, 1, 0, 1, 7, 7, 6, 1, 0, 0);
        deliverAll(x);
        work("late answers count for nothing", x, 2, 2, 1, 0, 1, 7, 7, 6, 1, 0, 0);
        C.same("writes", x.count(2), 3);

        QuorumNodes y = new QuorumNodes(3, 2, 2);
        y.write(0, 1, 7);
        y.deliver(0);
        y.deliver(1);
        loseAll(y);
        y.crash(0);
        y.restart(0);
        C.same("read", y.read(0, 1), 2);
        work("BEST is its own at first", y, 0, 2, 1, 1, 1, 0, 7, 1, 1, 0, 0);
        y.deliver(0);
        y.deliver(1);
        work("what is less does not become BEST", y, 0, 2, 1, 2, 1, 0, 7, 1, 1, 0, 0);
        deliverAll(y);
        work("DONE", y, 0, 2, 1, 0, 1, 7);

        QuorumNodes one = alone();
        C.same("read alone", one.read(0, 3), 1);
        work("read alone", one, 0, 1, 1, 0, 3, 0, 1, 1, 0, 0, 0);
        nodeIs("two phases", one, 0, 1, 1, 0, 0, 0, 2, 0);
    }

    private static void promise2Wrong() {
        QuorumNodes x = new QuorumNodes(3, 2, 2);
        for (int no : NO_NODES) {
            C.same("read of no node", x.read(no, 0), NONE);
            C.same("read of no object", x.read(0, no), NONE);
        }
        C.same("object 4", x.read(0, 4), NONE);
        C.same("ABSENT", x.read(3, 0), NONE);
        x.join(3, 0);
        C.same("no ACTIVE configuration", x.read(3, 0), NONE);
        C.same("tasks", x.count(1), 0);
        C.same("read", x.read(0, 0), 1);
        C.same("has a task", x.read(0, 1), NONE);
        C.same("has a task", x.write(0, 1, 1), NONE);
        C.same("has a task", x.propose(0, 1, 1, 1), NONE);
        C.same("has a task", x.retire(0), NONE);
        work("the task stays", x, 0, 1, 1, 1);
        x.crash(0);
        C.same("DOWN", x.read(0, 0), NONE);
        x.restart(0);
        C.same("read", x.read(0, 0), 2);
    }

    /** Phase 1: new sets are asked, too; it begins anew when one was given up. */
    private static void promise2Looks() {
        QuorumNodes x = new QuorumNodes(2, 1, 2);
        x.read(0, 0);
        loseAll(x);
        work("R is 1: phase 2", x, 0, 1, 1, 2, 0, 0, 3, 1);
        x.crash(0);
        x.restart(0);

        x = new QuorumNodes(2, 2, 1);
        C.same("read", x.read(0, 0), 1);
        loseAll(x);
        C.same("propose", x.propose(1, 12, 2, 1), 2);
        deliverAll(x);
        mapIs("agreed", x, 1, 1, 1, code(12, 2, 1));
        x.gossip(1, 0);
        x.deliver(0);
        work("new ones are asked in the same phase", x, 0, 1, 1, 1, 0, 0, 15, 1);
        nodeIs("same SERIAL", x, 0, 1, 1, 0, 0, 1, 1, 0);
        letter("to 2", x, 0, 1, 0, 2, 1, 1, 0, 0, 0, 0, 1);
        letter("to 3", x, 1, 1, 0, 3, 1, 1, 0, 0, 0, 0, 1);
        C.same("no others", x.count(0), 2);
        x.join(2, 1);
        x.join(3, 1);
        x.deliver(0);
        x.deliver(0);
        deliverAll(x);
        work("both sets are needed", x, 0, 1, 1, 1, 0, 0, 15, 13);
        C.same("again", x.again(0), 1);
        deliverAll(x);
        work("DONE by W of each", x, 0, 1, 1, 0, 0, 0, 15, 7);

        QuorumNodes y = alone(2);
        y.join(1, 0);
        deliverAll(y);
        y.write(1, 2, 9);
        deliverAll(y);
        C.same("read", y.read(0, 2), 3);
        work("read", y, 0, 3, 1, 1, 2, 0, 3, 1, 1, 1, 0);
        y.lose(0);
        y.retire(1);
        deliverAll(y);
        work("retired", y, 1, 4, 4, 0, 1, 1);
        int serial = y.node(0, 5);
        y.gossip(1, 0);
        y.deliver(0);
        work("begins anew", y, 0, 3, 1, 1, 2, 0, 2, 0, 1, 1, 0);
        C.same("next SERIAL", y.node(0, 5), serial + 1);
        letter("asks the set that is left", y, 0, 1, 0, 1, 1, serial + 1, 2);
        C.same("it alone", y.count(0), 1);
        deliverAll(y);
        work("DONE", y, 0, 3, 1, 0, 2, 9, 2, 2, 1, 1, 0);
    }

    /** Phase 2: what has ANSWERED stays, new sets are asked, those given up are needed no more. */
    private static void promise2LooksInPhase2() {
        QuorumNodes x = alone(2);
        x.join(1, 0);
        deliverAll(x);
        x.write(0, 0, 5);
        x.deliver(0);
        x.deliver(0);
        work("phase 2", x, 0, 2, 2, 2, 0, 0, 3, 1, 1, 0, 0);
        loseAll(x);
        int serial = x.node(0, 5);
        x.propose(1, 4, 1, 1);
        mapIs("next", x, 1, 2, 1, code(4, 1, 1));
        x.join(2, 1);
        x.deliver(0);
        x.deliver(0);
        x.retire(1);
        deliverAll(x);
        mapIs("given up", x, 1, 0, 2, code(1, 1, 1));
        work("asked on, not anew", x, 0, 2, 2, 2, 0, 0, 7, 5);
        C.same("same SERIAL", x.node(0, 5), serial);
        cellIs("stored there", x, 2, 0, 1, 0, 5);
        mapIs("0 does not know it", x, 0, 1, 1, code(2, 1, 1));
        x.gossip(1, 0);
        x.deliver(0);
        work("ENOUGH as it LOOKS", x, 0, 2, 2, 0, 0, 5, 7, 5);
        C.same("same SERIAL", x.node(0, 5), serial);
        C.same("nothing is sent", x.count(0), 0);
    }

    private static void promise3() {
        QuorumNodes x = new QuorumNodes(3, 2, 2);
        C.same("write", x.write(0, 0, -1), 1);
        C.same("write", x.write(1, 0, LEAST), 2);
        work("begins", x, 0, 1, 2, 1, 0, 0, 7, 1, 0, 0, 0);
        x.deliver(0);
        x.deliver(1);
        deliverAll(x);
        work("DONE", x, 0, 1, 2, 0, 0, -1);
        C.same("result", x.task(1, 4), LEAST);
        work("the same number, another writer", x, 0, 1, 2, 0, 0, -1, 7, x.task(0, 6), 1, 0, 0);
        work("the same number, another writer", x, 1, 2, 2, 0, 0, LEAST, 7, x.task(1, 6), 1, 1, 0);
        for (int node = 0; node < 3; node++) {
            cellIs("the greater writer", x, node, 0, 1, 1, LEAST);
        }
        C.same("write", x.write(2, 0, 6), 3);
        deliverAll(x);
        work("a greater number", x, 2, 3, 2, 0, 0, 6, 7, x.task(2, 6), 2, 2, 0);
        cellIs("other objects", x, 2, 1, 0, 0, 0);
        for (int no : NO_NODES) {
            C.same("write of no node", x.write(no, 0, 1), NONE);
            C.same("write of no object", x.write(0, no, 1), NONE);
        }
        C.same("object 4", x.write(0, 4, 1), NONE);
        C.same("ABSENT", x.write(3, 0, 1), NONE);
        x.join(3, 0);
        C.same("no ACTIVE configuration", x.write(3, 0, 1), NONE);
        C.same("tasks", x.count(1), 3);
    }

    private static void promise3Edges() {
        QuorumNodes x = alone();
        x.arm(0, 1);
        C.same("goes down by it", x.write(0, 0, 5), DOWN);
        nodeIs("DOWN", x, 0, 2, 1, 0, 0, 0, 0, 0);
        cellIs("not written", x, 0, 0, 0, 0, 0);
        C.same("no write", x.count(2), 0);
        C.same("yet a task", x.count(1), 1);
        C.same("DOWN already", x.write(0, 0, 5), NONE);
        x.restart(0);
        C.same("the next number", x.write(0, 0, 5), 2);
        cellIs("written", x, 0, 0, 1, 0, 5);

        QuorumNodes y = alone(2);
        y.join(1, 0);
        deliverAll(y);
        y.retire(0);
        deliverAll(y);
        y.write(0, 1, 8);
        work("a node that is in no set", y, 0, 3, 2, 1, 1, 0, 2, 0);
        y.deliver(0);
        y.deliver(0);
        cellIs("its own cell, too", y, 0, 1, 1, 0, 8);
        cellIs("not asked yet", y, 1, 1, 0, 0, 0);

        QuorumNodes z = new QuorumNodes(3, 2, 2);
        z.write(0, 0, 4);
        z.write(1, 0, 6);
        z.deliver(2);
        z.deliver(3);
        work("1 is ahead", z, 1, 2, 2, 2, 0, 0, 7, 2, 1, 1);
        z.deliver(3);
        cellIs("0 has its value", z, 0, 0, 1, 1, 6);
        int writes = z.count(2);
        z.deliver(1);
        z.deliver(z.count(0) - 1);
        work("BEST is of the answers", z, 0, 1, 2, 2, 0, 0, 7, 1, 1, 0);
        cellIs("its own is greater and stays", z, 0, 0, 1, 1, 6);
        C.same("no write", z.count(2), writes);
    }

    private static void promise4Wrong() {
        QuorumNodes x = new QuorumNodes(3, 2, 2);
        int[][] rows = {
            {0, 1, 1}, {256, 1, 1}, {-1, 8, 8}, {LEAST, 1, 1}, {MOST, 8, 8}, {257, 1, 1}, {7, 0, 3}, {7, 3, 0}, {7, 4, 3},
            {7, 3, 4}, {7, 1, 2}, {7, 2, 1}, {255, 4, 4}, {7, MOST, MOST}, {7, LEAST, 3}, {7, -1, 3}, {1, 1, 2}, {1, 2, 1},
        };
        for (int[] row : rows) {
            C.same("set " + row[0] + ", " + row[1] + ", " + row[2], x.propose(0, row[0], row[1], row[2]), NONE);
        }
        for (int no : NO_NODES) {
            C.same("propose of no node", x.propose(no, 1, 1, 1), NONE);
        }
        C.same("ABSENT", x.propose(3, 1, 1, 1), NONE);
        x.join(3, 0);
        C.same("no ACTIVE configuration", x.propose(3, 1, 1, 1), NONE);
        C.same("tasks", x.count(1), 0);
        C.same("an edge", x.propose(0, 255, 8, 1), 1);
        C.same("an edge", x.propose(1, 128, 1, 1), 2);
        C.same("an edge", x.propose(2, 255, 1, 8), 3);
    }

    private static void promise4Indexes() {
        QuorumNodes x = alone();
        for (int index = 1; index < 16; index++) {
            C.same("propose", x.propose(0, 1, 1, 1), index);
            work("DONE", x, 0, index, 3, 0, index, 1, 1, 1, 0, 0, 8 * index);
            mapIs("index", x, 0, index, 1, code(1, 1, 1), 8 * index, 8 * index, code(1, 1, 1));
            nodeIs("index", x, 0, 1, 1, index, 0, index, 2 * index, 0);
        }
        C.same("ROUND, PROMISED, ACCEPTED, MAP of each", x.count(2), 15 * 4);
        C.same("none behind 15", x.propose(0, 1, 1, 1), NONE);
        C.same("retire", x.retire(0), 16);
        C.same("OLD ones", x.task(0, 4), 15);
        C.same("none behind 15 still", x.propose(0, 1, 1, 1), NONE);
        nodeIs("one is left", x, 0, 1, 1, 15, 15, 15);
    }

    /** One that comes later goes on with what was ACCEPTED; the first one sees that as it LOOKS. */
    private static void promise4Agreement() {
        QuorumNodes x = new QuorumNodes(3, 2, 2);
        C.same("propose", x.propose(0, 1, 1, 1), 1);
        work("phase 1", x, 0, 1, 3, 1, 1, 0, 7, 1, 0, 0, 8);
        letter("PREPARE", x, 0, 5, 0, 1, 1, 1, 1, 8, 0, 0, 0);
        x.deliver(0);
        letter("PROMISE", x, 1, 6, 1, 0, 1, 1, 1, 0, 0, 0, 0);
        mapIs("PROMISED", x, 1, 1, 0, 0, 8, 0, 0);
        x.deliver(1);
        work("phase 2", x, 0, 1, 3, 2, 1, 0, 7, 1, 0, 0, 8);
        letter("ACCEPT", x, 1, 7, 0, 1, 1, 2, 1, 8, code(1, 1, 1), 0, 0);
        mapIs("its own", x, 0, 1, 0, 0, 8, 8, code(1, 1, 1));
        x.deliver(1);
        letter("ACCEPTED", x, 2, 8, 1, 0, 1, 2, 1, 0, 0, 0, 0);
        loseAll(x);

        C.same("another one", x.propose(2, 4, 1, 1), 2);
        x.deliver(0);
        letter("PROMISE with what is ACCEPTED", x, 1, 6, 0, 2, 1, 1, 1, 8, code(1, 1, 1), 0, 0);
        x.deliver(1);
        letter("ACCEPT of this", x, 1, 7, 2, 0, 1, 2, 1, 10, code(1, 1, 1), 0, 0);
        x.deliver(1);
        mapIs("ACCEPTED by a greater ballot", x, 0, 1, 0, 0, 10, 10, code(1, 1, 1));
        x.deliver(2);
        work("DONE, but not its own", x, 2, 2, 3, 0, 1, 0, 7, 5, 0, 0, 10);
        mapIs("the first one's", x, 2, 1, 1, code(1, 1, 1), 10, 10, code(1, 1, 1));
        loseAll(x);
        x.gossip(2, 0);
        work("not yet", x, 0, 1, 3, 2, 1, 0);
        x.deliver(0);
        work("DONE as it LOOKS, its own", x, 0, 1, 3, 0, 1, 1, 7, 1, 0, 0, 8);
        C.same("not again", x.again(0), NONE);
    }

    /** Nodes 0 and 1 have ACCEPTED two configurations by ballots 8 and 9; the greater one goes on. */
    private static void promise4Greatest() {
        for (int order = 0; order < 2; order++) {
            QuorumNodes x = new QuorumNodes(5, 3, 3);
            for (int node = 0; node < 2; node++) {
                x.propose(node, 1 << node, 1, 1);
                x.deliver(1);
                x.deliver(1);
                x.deliver(2);
                x.deliver(2);
                mapIs("ACCEPTED alone", x, node, 1, 0, 0, 8 + node, 8 + node, code(1 << node, 1, 1));
                loseAll(x);
            }
            C.same("propose", x.propose(4, 16, 1, 1), 3);
            x.deliver(0);
            x.deliver(0);
            letter("PROMISE", x, 2, 6, 0, 4, 1, 1, 1, 8, code(1, 1, 1));
            letter("PROMISE", x, 3, 6, 1, 4, 1, 1, 1, 9, code(2, 1, 1));
            x.deliver(2 + order);
            x.deliver(2);
            letter("ACCEPT", x, 2, 7, 4, 0, 1, 2, 1, 12, code(2, 1, 1));
        }

        QuorumNodes y = new QuorumNodes(4, 3, 2);
        y.propose(0, 1, 1, 1);
        y.deliver(0);
        y.deliver(0);
        y.deliver(1);
        y.deliver(1);
        mapIs("ACCEPTED alone", y, 0, 1, 0, 0, 8, 8, code(1, 1, 1));
        loseAll(y);
        y.propose(3, 8, 1, 1);
        y.deliver(0);
        y.deliver(2);
        work("has found it", y, 3, 2, 3, 1, 1, 0, 15, 9);
        loseAll(y);
        y.again(3);
        y.deliver(1);
        y.deliver(1);
        y.deliver(1);
        y.deliver(1);
        letter("what it found is no answer of the new phase", y, 1, 7, 3, 0, 1, 3, 1, 19, code(8, 1, 1));
    }

    private static void promise4Refused() {
        QuorumNodes x = new QuorumNodes(2, 1, 2);
        x.propose(1, 3, 1, 2);
        work("R is its own answer", x, 1, 1, 3, 2, 1, 0, 3, 2, 0, 0, 9);
        C.same("PREPARE and ACCEPT", x.count(0), 2);
        C.same("anew", x.again(1), 1);
        work("anew", x, 1, 1, 3, 2, 1, 0, 3, 2, 0, 0, 17);
        letter("the next PREPARE", x, 2, 5, 1, 0, 1, 3, 1, 17, 0, 0, 0);
        x.deliver(2);
        mapIs("PROMISED", x, 0, 1, 0, 0, 17, 0, 0);
        x.deliver(0);
        letter("REFUSED of PREPARE", x, 3, 9, 0, 1, 1, 1, 1, 17, 0, 0, 0);
        x.deliver(0);
        letter("REFUSED of ACCEPT", x, 3, 9, 0, 1, 1, 2, 1, 17, 0, 0, 0);
        loseAll(x);

        int writes = x.count(2);
        C.same("propose", x.propose(0, 1, 1, 1), 2);
        work("its own REFUSED at once", x, 0, 2, 3, 1, 1, 0, 3, 0, 0, 0, 8);
        C.same("ROUND rises to that", x.node(0, 2), 2);
        C.same("by two writes", x.count(2), writes + 2);
        x.deliver(0);
        letter("REFUSED by 1", x, 0, 9, 1, 0, 1, 1, 1, 17, 0, 0, 0);
        x.deliver(0);
        C.same("ROUND is so already", x.count(2), writes + 2);
        C.same("anew", x.again(0), 1);
        work("anew", x, 0, 2, 3, 2, 1, 0, 3, 1, 0, 0, 24);
        deliverAll(x);
        work("1 had ACCEPTED, and none asked it", x, 0, 2, 3, 0, 1, 1, 3, 3, 0, 0, 24);
        work("the other one goes on", x, 1, 1, 3, 2, 1, 0);
        x.gossip(0, 1);
        x.deliver(0);
        work("it LOOKS: not its own", x, 1, 1, 3, 0, 1, 0);

        QuorumNodes y = new QuorumNodes(3, 3, 1);
        y.propose(0, 1, 1, 1);
        y.again(0);
        y.again(0);
        y.deliver(4);
        loseAll(y);
        y.propose(2, 4, 1, 1);
        y.deliver(1);
        letter("REFUSED", y, 1, 9, 1, 2, 1, 1, 1, 24, 0, 0, 0);
        C.same("ROUND ahead of it", y.node(2, 2), 1);
        y.deliver(1);
        C.same("ROUND behind it", y.node(2, 2), 3);
        work("no answer", y, 2, 2, 3, 1, 1, 0, 7, 4);
        C.same("those that have not ANSWERED, anew", y.again(2), 2);
        C.same("a ballot behind it", y.task(2, 9), 8 * 4 + 2);
    }

    /** A PREPARE that comes twice is REFUSED, which counts for nothing from a node that has ANSWERED. */
    private static void promise4LateRefusal() {
        QuorumNodes x = new QuorumNodes(3, 3, 3);
        x.propose(0, 1, 1, 1);
        x.twice(0);
        x.deliver(0);
        x.deliver(2);
        work("1 has ANSWERED", x, 0, 1, 3, 1, 1, 0, 7, 3);
        x.propose(2, 4, 1, 1);
        x.again(2);
        x.deliver(5);
        mapIs("1 has PROMISED more", x, 1, 1, 0, 0, 18, 0, 0);
        x.deliver(1);
        int last = x.count(0) - 1;
        letter("REFUSED", x, last, 9, 1, 0, 1, 1, 1, 18, 0, 0, 0);
        x.deliver(last);
        C.same("ROUND stays", x.node(0, 2), 1);
        work("as before", x, 0, 1, 3, 1, 1, 0, 7, 3);

        QuorumNodes y = new QuorumNodes(1, 1, 1);
        y.propose(0, 3, 1, 2);
        y.join(1, 0);
        deliverAll(y);
        y.propose(0, 1, 1, 1);
        C.same("PREPARE, then ACCEPT", y.message(0, 0) * 100 + y.message(1, 0), 507);
        y.twice(1);
        y.deliver(1);
        int writes = y.count(2);
        y.deliver(1);
        letter("ACCEPT of the same ballot twice", y, 2, 8, 1, 0);
        C.same("is no write again", y.count(2), writes);
        y.deliver(0);
        letter("PREPARE of the same ballot", y, 2, 9, 1, 0, 1, 3, 2, y.task(0, 9));
    }

    private static void promise5() {
        QuorumNodes x = new QuorumNodes(3, 1, 3);
        for (int no : NO_NODES) {
            C.same("retire of no node", x.retire(no), NONE);
        }
        C.same("one alone", x.retire(0), NONE);
        C.same("ABSENT", x.retire(3), NONE);
        x.write(1, 2, 6);
        deliverAll(x);
        x.write(2, 3, 7);
        deliverAll(x);
        x.propose(0, 24, 1, 2);
        deliverAll(x);
        x.join(3, 0);
        x.join(4, 0);
        deliverAll(x);
        x.propose(0, 32, 1, 1);
        deliverAll(x);
        nodeIs("three are ACTIVE", x, 0, 1, 1, 2, 0, 2);
        C.same("tasks", x.count(1), 4);
        C.same("retire", x.retire(0), 5);
        work("phase 1", x, 0, 5, 4, 1, 2, 0, 31, 1, 0, 0, 0);
        int serial = x.node(0, 5);
        letter("COLLECT", x, 3, 10, 0, 4, 1, serial, 0, 0, 0, 0, 2);
        x.deliver(0);
        letter("COLLECTED", x, 3, 11, 1, 0, 1, serial, 0, 0, 0, 0, 2);
        x.deliver(3);
        work("the greater one of R and W", x, 0, 5, 4, 1, 2, 0, 31, 3);
        x.deliver(0);
        x.deliver(0);
        x.deliver(0);
        x.deliver(0);
        x.deliver(0);
        work("each OLD one", x, 0, 5, 4, 1, 2, 0, 31, 15);
        x.deliver(0);
        work("phase 2", x, 0, 5, 4, 2, 2, 0, 32, 0);
        letter("SPREAD", x, 0, 12, 0, 5, 1, serial + 1, 0, 0, 0, 0, 2);
        C.same("5 is ABSENT", x.deliver(0), 0);
        x.join(5, 0);
        C.same("again", x.again(0), 1);
        x.deliver(1);
        cellIs("SPREAD", x, 5, 2, 1, 1, 6);
        cellIs("SPREAD", x, 5, 3, 1, 2, 7);
        letter("13", x, 1, 13, 5, 0, 1, serial + 1, 0, 0, 0, 0, 2);
        mapIs("not yet", x, 0, 0, 1, code(7, 1, 3));
        int writes = x.count(2);
        x.deliver(1);
        work("DONE", x, 0, 5, 4, 0, 2, 2, 32, 32, 0, 0, 0);
        mapIs("RETIRED", x, 0, 0, 2, code(7, 1, 3));
        mapIs("RETIRED", x, 0, 1, 2, code(24, 1, 2));
        mapIs("TARGET", x, 0, 2, 1, code(32, 1, 1));
        C.same("a write each", x.count(2), writes + 2);
        C.same("one alone", x.retire(0), NONE);
    }

    private static void promise5Wrong() {
        QuorumNodes x = alone(2);
        x.read(0, 0);
        C.same("has a task", x.retire(0), NONE);
        x.crash(0);
        C.same("DOWN", x.retire(0), NONE);
        x.restart(0);
        x.join(1, 0);
        C.same("no ACTIVE configuration", x.retire(1), NONE);
        C.same("tasks", x.count(1), 2);
        C.same("retire", x.retire(0), 3);
    }

    private static void promise5Edges() {
        QuorumNodes x = alone(1, 1);
        x.arm(0, 2);
        C.same("goes down", x.retire(0), DOWN);
        mapIs("the first one is RETIRED", x, 0, 0, 2, code(1, 1, 1));
        mapIs("the second is not", x, 0, 1, 1, code(1, 1, 1));
        x.restart(0);
        C.same("retire", x.retire(0), 4);
        C.same("one OLD", x.task(0, 4), 1);

        QuorumNodes y = alone(1, 2);
        y.join(1, 0);
        deliverAll(y);
        C.same("retire", y.retire(0), 3);
        loseAll(y);
        work("waits for TARGET", y, 0, 3, 4, 2, 2, 0, 2, 0);
        y.propose(1, 2, 1, 1);
        y.retire(1);
        deliverAll(y);
        nodeIs("1 has given up more", y, 1, 1, 1, 1, 3, 3);
        int serial = y.node(0, 5);
        y.gossip(1, 0);
        y.deliver(0);
        work("TARGET stays", y, 0, 3, 4, 2, 2, 0, 2, 0);
        C.same("it LOOKS at nothing", y.node(0, 5), serial);
        C.same("nothing is sent", y.count(0), 0);
        y.again(0);
        int writes = y.count(2);
        deliverAll(y);
        work("DONE", y, 0, 3, 4, 0, 2, 2, 2, 2);
        C.same("they were RETIRED already", y.count(2), writes);

        QuorumNodes z = alone(2);
        z.join(1, 0);
        deliverAll(z);
        z.write(0, 0, 3);
        z.deliver(0);
        z.deliver(0);
        loseAll(z);
        z.crash(0);
        z.restart(0);
        z.retire(1);
        z.deliver(0);
        z.deliver(0);
        work("DONE", z, 1, 3, 4, 0, 1, 1);
        cellIs("BEST of the OLD ones", z, 1, 0, 1, 0, 3);
    }

    private static void promise6() {
        QuorumNodes x = new QuorumNodes(4, 3, 2);
        for (int no : NO_NODES) {
            C.same("again of no node", x.again(no), NONE);
        }
        C.same("no task", x.again(0), NONE);
        C.same("ABSENT", x.again(7), NONE);
        x.write(1, 3, 5);
        x.deliver(0);
        x.deliver(2);
        C.same("two are missing", x.again(1), 2);
        C.same("sent once more", x.count(0), 4);
        letter("to 2", x, 2, 1, 1, 2, 1, 1, 3, 0, 0, 0, 0);
        letter("to 3", x, 3, 1, 1, 3, 1, 1, 3, 0, 0, 0, 0);
        work("same phase", x, 1, 1, 2, 1, 3, 0, 15, 3);
        x.deliver(2);
        x.deliver(3);
        work("phase 2", x, 1, 1, 2, 2, 3, 0, 15, 2);
        loseAll(x);
        C.same("three are missing", x.again(1), 3);
        letter("to 0", x, 0, 3, 1, 0, 1, 2, 3, 1, 1, 5, 0);
        letter("to 3", x, 2, 3, 1, 3, 1, 2, 3, 1, 1, 5, 0);
        deliverAll(x);
        C.same("DONE", x.again(1), NONE);
        x.read(1, 0);
        x.crash(1);
        C.same("DOWN", x.again(1), NONE);

        QuorumNodes y = new QuorumNodes(2, 2, 2);
        y.propose(0, 1, 1, 1);
        y.arm(0, 2);
        C.same("goes down by it", y.again(0), DOWN);
        nodeIs("ROUND was written", y, 0, 2, 1, 2);
        mapIs("PROMISED was not", y, 0, 1, 0, 0, 8, 0, 0);
        C.same("no PREPARE behind its own", y.count(0), 1);

        QuorumNodes z = new QuorumNodes(2, 2, 2);
        z.propose(1, 1, 1, 1);
        z.arm(1, 2);
        C.same("goes down by it", z.again(1), DOWN);
        C.same("a PREPARE ahead of its own", z.count(0), 2);

        QuorumNodes v = new QuorumNodes(2, 1, 2);
        v.read(0, 0);
        loseAll(v);
        v.propose(1, 2, 1, 1);
        deliverAll(v);
        v.gossip(1, 0);
        deliverAll(v);
        C.same("with the MAP of then", v.again(0), 1);
        letter("MAP", v, 0, 3, 0, 1, 1, 2, 0, 0, 0, 0, 1);
    }

    private static void promise7() {
        QuorumNodes x = new QuorumNodes(3, 2, 2);
        for (int no : NO_NODES) {
            C.no("no node", x.gossip(no, 0));
            C.no("to no node", x.gossip(0, no));
        }
        C.no("to itself", x.gossip(0, 0));
        C.no("ABSENT", x.gossip(3, 0));
        x.join(3, 0);
        C.no("no ACTIVE configuration", x.gossip(3, 0));
        x.crash(2);
        C.no("DOWN", x.gossip(2, 0));
        loseAll(x);
        x.write(0, 0, 4);
        x.deliver(0);
        x.deliver(1);
        loseAll(x);
        C.yes("gossip", x.gossip(0, 3));
        letter("GOSSIP", x, 0, 14, 0, 3, 0, 0, 0, 0, 0, 0, 0);
        x.crash(0);
        int writes = x.count(2);
        x.deliver(0);
        cellIs("told", x, 3, 0, 1, 0, 4);
        mapIs("told", x, 3, 0, 1, code(7, 2, 2));
        C.same("MAP and one cell", x.count(2), writes + 2);
        C.same("no answer", x.count(0), 0);
        x.read(1, 1);
        loseAll(x);
        x.gossip(3, 1);
        x.deliver(0);
        cellIs("with the sender's cells", x, 1, 0, 1, 0, 4);
        C.yes("to one that is DOWN", x.gossip(3, 0));
        C.yes("to one that is ABSENT", x.gossip(3, 7));
    }

    private static void promise8() {
        QuorumNodes x = new QuorumNodes(2, 1, 2);
        for (int no : NO_NODES) {
            C.no("no node", x.join(no, 0));
            C.no("to no node", x.join(2, no));
        }
        C.no("to itself", x.join(2, 2));
        C.same("ABSENT still", x.node(2, 0), 0);
        C.no("UP and ACTIVE", x.join(0, 1));
        x.crash(0);
        C.no("DOWN", x.join(0, 1));
        C.yes("join", x.join(2, 5));
        nodeIs("UP", x, 2, 1, 1, 0, NONE, NONE, 0, 0);
        C.same("no write", x.count(2), 0);
        letter("JOIN", x, 0, 15, 2, 5, 0, 0, 0, 0, 0, 0, NONE);
        C.same("5 is ABSENT", x.deliver(0), 0);
        C.yes("once more", x.join(2, 1));
        x.write(1, 0, 3);
        x.deliver(0);
        letter("GOSSIP for it", x, x.count(0) - 1, 14, 1, 2, 0, 0, 0, 0, 0, 0, 0);
        x.deliver(x.count(0) - 1);
        cellIs("told", x, 2, 0, 1, 1, 3);
        C.no("has one now", x.join(2, 1));
        x.join(3, 4);
        x.join(4, 3);
        loseAll(x);
        x.join(3, 4);
        C.same("one without any", x.deliver(0), 1);
        C.same("does not answer", x.count(0), 0);
        x.crash(3);
        x.restart(3);
        C.yes("after a restart", x.join(3, 1));
    }

    private static void promise9() {
        QuorumNodes x = new QuorumNodes(2, 2, 2);
        C.same("none", x.deliver(0), NONE);
        x.read(0, 0);
        for (int no : new int[] {-1, 1, 120, LEAST, MOST}) {
            C.same("none", x.deliver(no), NONE);
        }
        x.twice(0);
        x.crash(1);
        C.same("lost", x.deliver(0), 0);
        C.same("taken out", x.count(0), 1);
        x.restart(1);
        C.same("arrives", x.deliver(0), 1);
        C.same("answered", x.count(0), 1);

        QuorumNodes y = new QuorumNodes(2, 1, 2);
        y.write(0, 0, 5);
        y.arm(1, 1);
        C.same("goes down by it", y.deliver(1), 1);
        nodeIs("DOWN", y, 1, 2, 1, 0, 0, 0, 0, 0);
        C.same("no answer", y.count(0), 1);

        QuorumNodes z = new QuorumNodes(2, 2, 2);
        z.write(0, 0, 5);
        z.twice(0);
        z.deliver(0);
        z.twice(1);
        z.deliver(1);
        work("phase 2", z, 0, 1, 2, 2, 0, 0, 3, 1);
        z.deliver(1);
        work("an answer of phase 1 counts no more", z, 0, 1, 2, 2, 0, 0, 3, 1);

        QuorumNodes v = new QuorumNodes(3, 3, 3);
        v.read(0, 0);
        v.twice(0);
        v.deliver(0);
        v.deliver(1);
        v.deliver(1);
        v.deliver(1);
        work("one that ANSWERED twice counts once", v, 0, 1, 1, 1, 0, 0, 7, 3);
    }

    private static void promise9Incarnations() {
        QuorumNodes x = new QuorumNodes(2, 2, 2);
        x.read(0, 0);
        x.deliver(0);
        letter("ANSWER", x, 0, 2, 1, 0, 1, 1);
        x.crash(0);
        x.restart(0);
        x.read(0, 0);
        C.same("the same SERIAL", x.node(0, 5), 1);
        letter("of INCARNATION 2", x, 1, 1, 0, 1, 2, 1);
        x.deliver(0);
        work("the old answer counts for nothing", x, 0, 2, 1, 1, 0, 0, 3, 1);

        QuorumNodes y = alone(2);
        y.join(1, 0);
        y.arm(0, 1);
        C.same("what it does not change", y.deliver(0), 1);
        y.arm(1, 1);
        C.same("MAP is a write", y.deliver(0), 1);
        nodeIs("went down ahead of it", y, 1, 2, 1, 0, NONE, NONE, 0, 0);
        y.restart(1);
        y.join(1, 0);
        y.deliver(0);
        y.deliver(0);
        nodeIs("all of it at once", y, 1, 1, 2, 0, 0, 1, 0, 0);
        C.same("ROUND, PROMISED, ACCEPTED, MAP; restart; MAP", y.count(2), 6);
    }

    private static void promise10And11() {
        QuorumNodes x = new QuorumNodes(3, 2, 2);
        C.no("none", x.lose(0));
        C.no("none", x.twice(0));
        x.write(0, 3, 5);
        for (int no : new int[] {-1, 2, 120, LEAST, MOST}) {
            C.no("none", x.lose(no));
            C.no("none", x.twice(no));
        }
        C.yes("twice", x.twice(0));
        C.same("under way", x.count(0), 3);
        letter("behind all others", x, 2, 1, 0, 1, 1, 1, 3, 0, 0, 0, 0);
        letter("the first one stays", x, 0, 1, 0, 1);
        C.yes("lose", x.lose(1));
        C.same("under way", x.count(0), 2);
        letter("those behind it move up", x, 1, 1, 0, 1, 1, 1, 3, 0, 0, 0, 0);
        while (x.count(0) < 119) {
            C.yes("twice", x.twice(1));
        }
        C.yes("the 120th", x.twice(0));
        C.no("not the 121st", x.twice(0));
        C.same("not lost by that", x.count(4), 0);
        C.same("under way", x.count(0), 120);
        C.yes("gossip", x.gossip(0, 1));
        C.yes("join", x.join(5, 1));
        C.same("is UP", x.node(5, 0), 1);
        C.same("two were lost", x.count(4), 2);
        C.same("under way", x.count(0), 120);
        C.same("read", x.read(1, 0), 2);
        C.same("four were lost", x.count(4), 4);
        C.same("ASKED all the same", x.task(1, 5), 7);
        C.same("there is room for the answer", x.deliver(7), 1);
        letter("the answer", x, 119, 2, 1, 0);
        C.yes("lose", x.lose(119));
        C.no("lose", x.lose(119));
        C.yes("gossip", x.gossip(2, 0));
        C.yes("lose", x.lose(117));
        letter("the last one moves up", x, 118, 14, 2, 0);
        C.yes("twice", x.twice(118));
        letter("the last one twice", x, 119, 14, 2, 0);
    }

    private static void promise12And13() {
        QuorumNodes x = new QuorumNodes(2, 2, 2);
        for (int no : NO_NODES) {
            C.no("no node", x.crash(no));
            C.no("no node", x.restart(no));
        }
        C.no("ABSENT", x.crash(2));
        C.no("ABSENT", x.restart(2));
        C.no("UP", x.restart(0));
        x.read(0, 0);
        deliverAll(x);
        x.write(0, 2, 3);
        deliverAll(x);
        x.propose(0, 1, 1, 1);
        x.arm(0, 9);
        C.yes("crash", x.crash(0));
        nodeIs("SERIAL is forgotten, not armed", x, 0, 2, 1, 1, 0, 0, 0, 0);
        C.same("no task", x.task(0, 0), NONE);
        C.no("DOWN", x.crash(0));
        int writes = x.count(2);
        C.yes("restart", x.restart(0));
        C.same("INCARNATION is a write", x.count(2), writes + 1);
        nodeIs("UP", x, 0, 1, 2, 1, 0, 0, 0, 0);
        cellIs("cells stay", x, 0, 2, 1, 0, 3);
        mapIs("cells stay", x, 0, 1, 0, 0, 8, 0, 0);
        C.same("no task", x.task(0, 0), NONE);
        C.same("again", x.again(0), NONE);
        C.no("UP", x.restart(0));
        x.crash(0);
        x.restart(0);
        nodeIs("once more", x, 0, 1, 3);
        x.write(1, 0, 1);
        deliverAll(x);
        C.same("DONE", x.task(1, 2), 0);
        x.crash(1);
        x.restart(1);
        C.same("one that was DONE is forgotten, too", x.task(1, 0), NONE);
    }

    private static void promise14() {
        QuorumNodes x = new QuorumNodes(2, 2, 2);
        for (int no : NO_NODES) {
            C.no("no node", x.arm(no, 1));
        }
        for (int n : new int[] {-1, 101, LEAST, MOST}) {
            C.no("no such n", x.arm(0, n));
        }
        C.no("ABSENT", x.arm(2, 1));
        C.yes("most", x.arm(0, 100));
        nodeIs("armed", x, 0, 1, 1, 0, 0, 0, 0, 100);
        C.no("no such n", x.arm(0, 101));
        C.same("armed still", x.node(0, 6), 100);
        C.yes("no more", x.arm(0, 0));
        C.same("no more", x.node(0, 6), 0);
        x.crash(1);
        C.no("DOWN", x.arm(1, 1));

        QuorumNodes y = alone();
        y.arm(0, 3);
        y.read(0, 0);
        C.same("a READ of its own cell is no write", y.node(0, 6), 3);
        y.write(0, 0, 1);
        C.same("one is left behind", y.node(0, 6), 2);
        y.write(0, 0, 1);
        C.same("one is left", y.node(0, 6), 1);
        C.same("the third", y.write(0, 0, 1), DOWN);
        nodeIs("not armed", y, 0, 2, 1, 0, 0, 0, 0, 0);
        y.restart(0);
        C.same("not armed", y.node(0, 6), 0);
        y.arm(0, 1);
        y.arm(0, 0);
        C.same("not armed", y.write(0, 0, 1), 5);
    }

    /** A PROPOSAL alone writes ROUND, PROMISED, ACCEPTED, MAP: it goes down at each of them. */
    private static void promise14EachWrite() {
        int c = code(1, 1, 1);
        int[][] due = {{0, 0, 0, 0, 0, 0}, {1, 0, 0, 0, 0, 0}, {1, 0, 0, 8, 0, 0}, {1, 0, 0, 8, 8, c}, {1, 1, c, 8, 8, c}};
        for (int n = 1; n <= 5; n++) {
            QuorumNodes x = alone();
            x.arm(0, n);
            C.same("propose", x.propose(0, 1, 1, 1), n < 5 ? DOWN : 1);
            nodeIs("armed with " + n, x, 0, n < 5 ? 2 : 1, 1, due[n - 1][0]);
            mapIs("armed with " + n, x, 0, 1, due[n - 1][1], due[n - 1][2], due[n - 1][3], due[n - 1][4], due[n - 1][5]);
            C.same("writes", x.count(2), n - 1);
            C.same("tasks", x.count(1), 1);
        }
        for (int n = 1; n <= 4; n++) {
            QuorumNodes x = alone(2);
            for (int object = 0; object < 4; object++) {
                x.write(0, object, object + 5);
                x.join(1, 0);
                deliverAll(x);
            }
            x.join(2, 0);
            x.deliver(0);
            x.arm(2, n + 1);
            x.deliver(0);
            nodeIs("went down", x, 2, 2, 1, 0, 0, 1);
            for (int object = 0; object < 4; object++) {
                boolean told = object < n - 1;
                cellIs("by numbers", x, 2, object, told ? 1 : 0, 0, told ? object + 5 : 0);
            }
        }
    }

    private static void promise15() {
        QuorumNodes x = alone(2, 1);
        nodeIs("its second PROPOSAL waits", x, 0, 1, 1, 2, 0, 1, 3, 0);
        nodeIs("ABSENT", x, 7, 0, 1, 0, NONE, NONE, 0, 0);
        for (int no : NO_NODES) {
            C.same("no node", x.node(no, 0), NONE);
        }
        for (int what : new int[] {-1, 7, LEAST, MOST}) {
            C.same("no such thing", x.node(0, what), NONE);
        }
        x.join(1, 0);
        deliverAll(x);
        x.arm(0, 44);
        nodeIs("it is DONE", x, 0, 1, 1, 2, 0, 2, 4, 44);
        x.retire(0);
        deliverAll(x);
        nodeIs("two are RETIRED", x, 0, 1, 1, 2, 2, 2, 6, 42);
        x.crash(0);
        nodeIs("DOWN", x, 0, 2, 1, 2, 2, 2, 0, 0);
    }

    private static void promise16() {
        QuorumNodes x = alone();
        x.write(0, 3, -1);
        x.write(0, 3, MOST);
        x.write(0, 0, LEAST);
        cellIs("written twice", x, 0, 3, 2, 0, MOST);
        cellIs("written once", x, 0, 0, 1, 0, LEAST);
        cellIs("not written", x, 0, 1, 0, 0, 0);
        x.crash(0);
        cellIs("of one that is DOWN", x, 0, 3, 2, 0, MOST);
        for (int no : NO_NODES) {
            C.same("no node", x.cell(no, 0, 0), NONE);
            C.same("no object", x.cell(0, no, 0), NONE);
        }
        C.same("object 4", x.cell(0, 4, 0), NONE);
        for (int what : new int[] {-1, 3, LEAST, MOST}) {
            C.same("no such thing", x.cell(0, 0, what), NONE);
        }
    }

    private static void promise17() {
        QuorumNodes x = alone(3);
        mapIs("index 0", x, 0, 0, 1, code(1, 1, 1), 0, 0, 0);
        mapIs("index 1", x, 0, 1, 1, code(3, 1, 2), 8, 8, code(3, 1, 2));
        mapIs("index 2", x, 0, 2, 0, 0, 0, 0, 0);
        mapIs("ABSENT", x, 1, 1, 0, 0, 0, 0, 0);
        x.join(1, 0);
        deliverAll(x);
        mapIs("told by a message", x, 1, 1, 1, code(3, 1, 2), 0, 0, 0);
        x.retire(0);
        deliverAll(x);
        mapIs("RETIRED", x, 0, 0, 2, code(1, 1, 1), 0, 0, 0);
        x.gossip(0, 1);
        deliverAll(x);
        mapIs("told so", x, 1, 0, 2, code(1, 1, 1), 0, 0, 0);
        x.join(2, 1);
        deliverAll(x);
        mapIs("RETIRED from UNKNOWN", x, 2, 0, 2, code(1, 1, 1), 0, 0, 0);
        for (int no : NO_NODES) {
            C.same("no node", x.map(no, 0, 0), NONE);
        }
        for (int no : new int[] {-1, 16, LEAST, MOST}) {
            C.same("no index", x.map(0, no, 0), NONE);
        }
        for (int what : new int[] {-1, 5, LEAST, MOST}) {
            C.same("no such thing", x.map(0, 0, what), NONE);
        }
        mapIs("the last one", x, 0, 15, 0, 0, 0, 0, 0);
    }

    private static void promise18() {
        QuorumNodes x = alone(2);
        work("of a PROPOSAL", x, 0, 1, 3, 0, 1, 1, 1, 1, 0, 0, 8);
        x.join(1, 0);
        deliverAll(x);
        x.write(0, 2, 5);
        work("of a WRITE", x, 0, 2, 2, 1, 2, 0, 3, 1, 0, 0, 0);
        deliverAll(x);
        work("of a WRITE", x, 0, 2, 2, 0, 2, 5, 3, 3, 1, 0, 0);
        x.read(1, 2);
        work("of a READ", x, 1, 3, 1, 1, 2, 0, 3, 2, 1, 0, 0);
        deliverAll(x);
        work("of a READ", x, 1, 3, 1, 0, 2, 5, 3, 3, 1, 0, 0);
        x.retire(0);
        work("of a RETIREMENT", x, 0, 4, 4, 2, 1, 0, 2, 0, 0, 0, 0);
        deliverAll(x);
        work("of a RETIREMENT", x, 0, 4, 4, 0, 1, 1, 2, 2, 0, 0, 0);
        C.same("NONE", x.retire(0), NONE);
        work("stays the latest", x, 0, 4, 4, 0);
        for (int no : NO_NODES) {
            C.same("no node", x.task(no, 0), NONE);
        }
        for (int what : new int[] {-1, 10, LEAST, MOST}) {
            C.same("no such thing", x.task(0, what), NONE);
        }
        C.same("ABSENT", x.task(5, 0), NONE);
        x.join(5, 0);
        C.same("without one", x.task(5, 2), NONE);
        x.crash(1);
        for (int what = 0; what < 10; what++) {
            C.same("DOWN", x.task(1, what), NONE);
        }
    }

    private static void promise19() {
        QuorumNodes x = new QuorumNodes(2, 2, 2);
        for (int what = -1; what < 11; what++) {
            C.same("none", x.message(0, what), NONE);
        }
        x.write(1, 3, -1);
        for (int no : new int[] {-1, 1, 119, 120, LEAST, MOST}) {
            C.same("none", x.message(no, 0), NONE);
        }
        for (int what : new int[] {-1, 10, LEAST, MOST}) {
            C.same("no such thing", x.message(0, what), NONE);
        }
        letter("1", x, 0, 1, 1, 0, 1, 1, 3, 0, 0, 0, 0);
        x.deliver(0);
        letter("2", x, 0, 2, 0, 1, 1, 1, 3, 0, 0, 0, 0);
        x.deliver(0);
        letter("3", x, 0, 3, 1, 0, 1, 2, 3, 1, 1, -1, 0);
        x.deliver(0);
        letter("4", x, 0, 4, 0, 1, 1, 2, 0, 0, 0, 0, 0);
        x.deliver(0);
        x.crash(1);
        x.restart(1);
        x.propose(1, 3, 2, 1);
        letter("5", x, 0, 5, 1, 0, 2, 1, 1, 9, 0, 0, 0);
        x.deliver(0);
        letter("6", x, 0, 6, 0, 1, 2, 1, 1, 0, 0, 0, 0);
        x.deliver(0);
        letter("7", x, 0, 7, 1, 0, 2, 2, 1, 9, code(3, 2, 1), 0, 0);
        x.twice(0);
        x.deliver(0);
        letter("8", x, 1, 8, 0, 1, 2, 2, 1, 0, 0, 0, 0);
        x.propose(0, 1, 1, 1);
        x.again(0);
        x.deliver(0);
        letter("9", x, 3, 9, 0, 1, 2, 2, 1, 16, 0, 0, 0);
        x.deliver(2);
        letter("6 with what is ACCEPTED", x, 3, 6, 1, 0, 1, 2, 1, 9, code(3, 2, 1), 0, 0);
        x.deliver(0);
        loseAll(x);
        work("DONE", x, 1, 2, 3, 0, 1, 1);
        x.retire(1);
        letter("10", x, 0, 10, 1, 0, 2, 3, 0, 0, 0, 0, 1);
        x.deliver(0);
        letter("11", x, 0, 11, 0, 1, 2, 3, 0, 0, 0, 0, 1);
        x.deliver(0);
        letter("12", x, 0, 12, 1, 0, 2, 4, 0, 0, 0, 0, 1);
        x.deliver(0);
        letter("13", x, 0, 13, 0, 1, 2, 4, 0, 0, 0, 0, 1);
        loseAll(x);
        x.gossip(0, 1);
        letter("14", x, 0, 14, 0, 1, 0, 0, 0, 0, 0, 0, 1);
        loseAll(x);
        x.join(7, 1);
        letter("15", x, 0, 15, 7, 1, 0, 0, 0, 0, 0, 0, NONE);
    }

    private static void promise20() {
        QuorumNodes x = new QuorumNodes(3, 2, 2);
        for (int what : new int[] {-1, 5, LEAST, MOST}) {
            C.same("no such thing", x.count(what), NONE);
        }
        x.write(0, 0, 1);
        deliverAll(x);
        C.same("under way", x.count(0), 0);
        C.same("tasks", x.count(1), 1);
        C.same("writes", x.count(2), 3);
        C.same("UP", x.count(3), 3);
        C.same("lost", x.count(4), 0);
        x.crash(1);
        C.same("UP", x.count(3), 2);
        x.join(7, 0);
        C.same("UP", x.count(3), 3);
        x.lose(0);
        C.same("not lost for want of room", x.count(4), 0);
        for (int i = 0; i < 123; i++) {
            C.yes("gossip", x.gossip(0, 2));
        }
        C.same("under way", x.count(0), 120);
        C.same("lost", x.count(4), 3);
        C.same("write", x.write(2, 0, 1), 2);
        C.same("lost", x.count(4), 5);
        C.same("writes", x.count(2), 3);
    }
}
