import java.util.Arrays;
import java.util.Random;

/**
 * Runs of calls that are drawn with fixed seeds, on the class and on the Model: every answer, and after
 * every call all that can be seen, must be the same.
 */
public final class ModelTest {
    private static final int RUNS = 600;
    private static final int CALLS = 512;
    private static final int[] ODD = {Integer.MIN_VALUE, -256, -9, -1, 8, 16, 120, 256, Integer.MAX_VALUE};

    private static final Checks CHECKS = new Checks();

    // How often what came to be, so that the runs are seen to reach the parts that they are for.
    private static final int[] SEEN = new int[8];

    private final Random random;
    private final int manner;
    private final QuorumNodes x;
    private final Model model;
    private final StringBuilder calls = new StringBuilder();

    private ModelTest(int seed) {
        random = new Random(seed);
        manner = seed % 7;
        int n = odd() ? strange() : 1 + random.nextInt(manner == 3 || manner == 6 ? 2 : 8);
        int r = odd() ? strange() : 1 + random.nextInt(4);
        int w = odd() ? strange() : 1 + random.nextInt(4);
        calls.append("new QuorumNodes(" + n + ", " + r + ", " + w + ")");
        x = new QuorumNodes(n, r, w);
        model = new Model(n, r, w);
    }

    public static void main(String[] args) {
        for (int seed = 0; seed < RUNS && CHECKS.wrong() == 0; seed++) {
            ModelTest run = new ModelTest(seed);
            run.compareAll();
            for (int i = 0; i < CALLS && CHECKS.wrong() == 0; i++) {
                run.call();
                run.compareAll();
            }
            run.tally();
            if (CHECKS.wrong() != 0) {
                System.out.println("seed " + seed + ": " + run.calls);
            }
        }
        System.out.println("DONE tasks by kind, goings down by a call, lost, index 15, RETIRED: "
            + Arrays.toString(SEEN));
        for (int seen : SEEN) {
            CHECKS.yes("each of these was seen", seen > 0);
        }
        CHECKS.end();
    }

    private void tally() {
        for (int node = 0; node < 8; node++) {
            SEEN[6] += x.node(node, 4) == 15 ? 1 : 0;
            SEEN[7] += x.map(node, 0, 0) == 2 ? 1 : 0;
        }
        SEEN[5] += x.count(4);
    }

    private boolean odd() {
        return random.nextInt(60) == 0;
    }

    private int strange() {
        return ODD[random.nextInt(ODD.length)];
    }

    private int someNode() {
        return odd() ? strange() : random.nextInt(manner == 1 || manner == 3 ? 4 : manner == 6 ? 2 : 8);
    }

    private int someMessage() {
        int under = x.count(0);
        if (odd()) {
            return strange();
        }
        return under == 0 || manner == 2 || manner == 6 ? 0 : random.nextInt(under + (odd() ? 2 : 0));
    }

    private void call() {
        int dice = random.nextInt(100);
        int busy = manner == 4 ? 25 : 60;
        if (dice < busy) {
            int i = someMessage();
            same("deliver(" + i + ")", x.deliver(i), model.deliver(i));
        } else if (dice < busy + 20) {
            callTask();
        } else {
            callFault();
        }
    }

    private void callTask() {
        int node = someNode();
        int object = odd() ? strange() : random.nextInt(4);
        int kinds = random.nextInt(10);
        if (manner == 6 && kinds < 5) {
            callPropose(node);
            return;
        }
        if (kinds < 2) {
            same("read(" + node + ", " + object + ")", x.read(node, object), model.read(node, object));
        } else if (kinds < 5) {
            int v = random.nextInt(9) - 4;
            same("write(" + node + ", " + object + ", " + v + ")", x.write(node, object, v),
                model.write(node, object, v));
        } else if (kinds < 8) {
            callPropose(node);
        } else {
            same("retire(" + node + ")", x.retire(node), model.retire(node));
        }
    }

    private void callPropose(int node) {
        int set = odd() ? strange() : 1 + random.nextInt(manner == 1 ? 15 : manner == 3 || manner == 6 ? 3 : 255);
        int size = Math.max(1, Integer.bitCount(set));
        int r = odd() ? strange() : 1 + random.nextInt(size);
        int w = odd() ? random.nextInt(10) : Math.max(size + 1 - r, random.nextInt(size + 1));
        same("propose(" + node + ", " + set + ", " + r + ", " + w + ")", x.propose(node, set, r, w),
            model.propose(node, set, r, w));
    }

    private void callFault() {
        int node = someNode();
        int to = someNode();
        int i = someMessage();
        int n = odd() ? strange() : random.nextInt(random.nextInt(20) == 0 ? 103 : 5);
        switch (random.nextInt(manner == 5 ? 12 : 24) + (manner == 6 ? 16 : 0)) {
            case 0: case 12: same("lose(" + i + ")", x.lose(i), model.lose(i)); break;
            case 1: case 13: case 14: same("twice(" + i + ")", x.twice(i), model.twice(i)); break;
            case 2: same("crash(" + node + ")", x.crash(node), model.crash(node)); break;
            case 3: case 4: case 15: same("restart(" + node + ")", x.restart(node), model.restart(node)); break;
            case 5: case 6: same("arm(" + node + ", " + n + ")", x.arm(node, n), model.arm(node, n)); break;
            case 7: case 16: case 17: same("join(" + node + ", " + to + ")", x.join(node, to), model.join(node, to)); break;
            case 8: case 18: case 19: same("gossip(" + node + ", " + to + ")", x.gossip(node, to), model.gossip(node, to)); break;
            default: same("again(" + node + ")", x.again(node), model.again(node)); break;
        }
    }

    private void same(String call, boolean got, boolean due) {
        same(call, got ? 1 : 0, due ? 1 : 0);
    }

    private void same(String call, int got, int due) {
        calls.append("; ").append(call).append(" ").append(got);
        CHECKS.same(call, got, due);
        SEEN[4] += got == QuorumNodes.DOWN ? 1 : 0;
        for (int node = 0; node < 8; node++) {
            if (x.task(node, 2) == 0) {
                SEEN[x.task(node, 1) - 1]++;
            }
        }
    }

    private void compareAll() {
        for (int node = 0; node < 8; node++) {
            compareNode(node);
        }
        for (int i = 0; i < x.count(0) + 1; i++) {
            for (int what = 0; what < 10; what++) {
                check(x.message(i, what), model.message(i, what), "message", i, what, 0);
            }
        }
        for (int what = 0; what < 5; what++) {
            check(x.count(what), model.count(what), "count", what, 0, 0);
        }
        int a = random.nextBoolean() ? strange() : random.nextInt(4);
        int b = random.nextBoolean() ? strange() : random.nextInt(4);
        int c = random.nextBoolean() ? strange() : random.nextInt(4);
        check(x.node(a, b), model.node(a, b), "node", a, b, 0);
        check(x.cell(a, b, c), model.cell(a, b, c), "cell", a, b, c);
        check(x.map(a, b, c), model.map(a, b, c), "map", a, b, c);
        check(x.task(a, b), model.task(a, b), "task", a, b, 0);
        check(x.message(a, b), model.message(a, b), "message", a, b, 0);
        check(x.count(a), model.count(a), "count", a, 0, 0);
    }

    private void compareNode(int node) {
        for (int what = 0; what < 7; what++) {
            check(x.node(node, what), model.node(node, what), "node", node, what, 0);
        }
        for (int object = 0; object < 4; object++) {
            for (int what = 0; what < 3; what++) {
                check(x.cell(node, object, what), model.cell(node, object, what), "cell", node, object, what);
            }
        }
        for (int index = 0; index < 16; index++) {
            for (int what = 0; what < 5; what++) {
                check(x.map(node, index, what), model.map(node, index, what), "map", node, index, what);
            }
        }
        for (int what = 0; what < 10; what++) {
            check(x.task(node, what), model.task(node, what), "task", node, what, 0);
        }
    }

    private static void check(int got, int due, String call, int a, int b, int c) {
        if (got != due) {
            CHECKS.same(call + " of " + a + ", " + b + ", " + c, got, due);
        }
    }
}
