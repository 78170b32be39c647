import java.util.Random;

/**
 * What the promises add up to, in runs that are drawn with fixed seeds, whatever is lost, comes twice or
 * goes down: no index ever has two configurations; what a node knows of the MAP is a beginning of it whose
 * last index is ACTIVE; and a task on an object that starts when another one is DONE finds nothing older.
 */
public final class SafetyTest {
    private static final int RUNS = 3000;
    private static final int CALLS = 512;

    private static final Checks CHECKS = new Checks();

    private final Random random;
    private final int size;
    private final QuorumNodes x;
    private final int[] agreed = new int[16];
    private final long[] newest = new long[4];
    private final long[] floor = new long[8];

    private SafetyTest(int seed) {
        random = new Random(seed);
        size = 2 + seed % 4;
        int r = 1 + random.nextInt(size);
        x = new QuorumNodes(size, r, size + 1 - r);
    }

    public static void main(String[] args) {
        int finished = 0;
        for (int seed = 0; seed < RUNS && CHECKS.wrong() == 0; seed++) {
            SafetyTest run = new SafetyTest(seed);
            for (int i = 0; i < CALLS && CHECKS.wrong() == 0; i++) {
                finished += run.call(i);
                run.checkMaps();
            }
            if (CHECKS.wrong() != 0) {
                System.out.println("seed " + seed);
            }
        }
        System.out.println(finished + " tasks on objects were DONE");
        CHECKS.yes("many tasks were DONE", finished > 10 * RUNS);
        CHECKS.end();
    }

    private int call(int i) {
        int[] before = new int[8];
        for (int node = 0; node < 8; node++) {
            before[node] = x.task(node, 2) > 0 ? x.task(node, 0) : 0;
        }
        int starter = step(i);
        if (starter >= 0 && x.task(starter, 2) >= 0) {
            floor[starter] = newest[x.task(starter, 3) & 3];
        }
        int finished = 0;
        for (int node = 0; node < 8; node++) {
            boolean ended = x.task(node, 2) == 0 && (before[node] == x.task(node, 0) || node == starter);
            if (ended && x.task(node, 1) <= 2) {
                finished++;
                checkTag(node);
            }
        }
        return finished;
    }

    private void checkTag(int node) {
        long tag = 8L * x.task(node, 7) + x.task(node, 8);
        int object = x.task(node, 3);
        boolean read = x.task(node, 1) == 1;
        CHECKS.yes("a later task finds nothing older", read ? tag >= floor[node] : tag > floor[node]);
        newest[object] = Math.max(newest[object], tag);
    }

    private void checkMaps() {
        for (int node = 0; node < 8; node++) {
            int known = 0;
            for (int index = 0; index < 16; index++) {
                int configuration = x.map(node, index, 1);
                if (configuration != 0) {
                    CHECKS.same("known are all up to " + index, known, index);
                    known++;
                    agreed[index] = agreed[index] == 0 ? configuration : agreed[index];
                    CHECKS.same("one configuration at " + index, configuration, agreed[index]);
                }
            }
            CHECKS.same("the last one is ACTIVE", x.node(node, 4), known - 1);
        }
    }

    /** One call; the node whose READ or WRITE it has started, or -1. */
    private int step(int i) {
        int node = random.nextInt(Math.min(8, size + 2));
        int other = random.nextInt(8);
        int under = Math.max(1, x.count(0));
        int dice = random.nextInt(100);
        if (dice < 70) {
            x.deliver(random.nextInt(3) == 0 ? random.nextInt(under) : 0);
        } else if (dice < 78) {
            return x.write(node, random.nextInt(2), i) > 0 ? node : -1;
        } else if (dice < 84) {
            return x.read(node, random.nextInt(2)) > 0 ? node : -1;
        } else if (dice < 88) {
            x.again(node);
        } else if (dice < 90) {
            int set = 1 + random.nextInt((1 << Math.min(8, size + 1)) - 1);
            int members = Integer.bitCount(set);
            int r = 1 + random.nextInt(members);
            x.propose(node, set, r, members + 1 - r);
        } else if (dice < 92) {
            x.retire(node);
        } else if (dice < 94) {
            x.join(node, other);
            x.gossip(node, other);
        } else if (dice < 96) {
            x.twice(random.nextInt(under));
        } else if (dice < 97) {
            x.lose(random.nextInt(under));
        } else if (dice < 98) {
            x.arm(node, 1 + random.nextInt(3));
        } else {
            x.restart(node);
        }
        return -1;
    }
}
