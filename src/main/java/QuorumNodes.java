/**
 * Objects that are kept by changing sets of nodes; README.md tells how to use it,
 * the document ../shared/DOC.md what each call promises.
 *
 * <p>No call makes an object: all rows are made by the constructor and used again.
 */
public final class QuorumNodes {
    public static final int NONE = -1, DOWN = -9;

    private static final int NODES = 8, OBJECTS = 4, INDEXES = 16, ROOM = 120, MOST_ARMED = 100;

    private static final int ALL_OBJECTS = (1 << OBJECTS) - 1;

    // What a node is; FALLEN is the document's state DOWN, whose name is taken by the answer.
    private static final int ABSENT = 0, UP = 1, FALLEN = 2;

    private static final int UNKNOWN = 0, ACTIVE = 1, RETIRED = 2;

    private static final int READ = 1, WRITE = 2, PROPOSAL = 3, RETIREMENT = 4;

    private static final int FINISHED = 0, FIRST = 1, SECOND = 2;

    private static final int NOTHING = 0, QUERY = 1, ANSWER = 2, STORE = 3, STORED = 4;

    private static final int PREPARE = 5, PROMISE = 6, ACCEPT = 7, ACCEPTED = 8, REFUSED = 9;

    private static final int COLLECT = 10, COLLECTED = 11, SPREAD = 12, SPREAD_OUT = 13;

    private static final int GOSSIP = 14, JOIN = 15;

    private final Node[] nodes = new Node[NODES];
    private final Mail mail = new Mail();
    private final Message draft = new Message();
    private final Message reply = new Message();
    private int tasks = 0;

    public QuorumNodes(int n, int r, int w) {
        int size = nearest(n, NODES);
        int readers = nearest(r, size);
        int writers = Math.max(nearest(w, size), size + 1 - readers);
        int first = configuration((1 << size) - 1, readers, writers);
        for (int i = 0; i < NODES; i++) {
            nodes[i] = new Node(i);
            if (i < size) {
                nodes[i].state = UP;
                nodes[i].sets.put(0, ACTIVE, first);
            }
        }
    }

    // ---- tasks

    public int read(int node, int object) {
        if (!isObject(object)) {
            return NONE;
        }
        Node at = openTask(node, READ, object);
        if (at == null) {
            return NONE;
        }
        beginFirst(at);
        settle(at);
        return started(at);
    }

    public int write(int node, int object, int v) {
        if (!isObject(object)) {
            return NONE;
        }
        Node at = openTask(node, WRITE, object);
        if (at == null) {
            return NONE;
        }
        at.task.value = v;
        beginFirst(at);
        settle(at);
        return started(at);
    }

    public int propose(int node, int set, int r, int w) {
        Node asked = find(node);
        if (asked == null || !isConfiguration(set, r, w)) {
            return NONE;
        }
        int index = greatest(asked.sets.having(ACTIVE)) + 1;
        if (index >= INDEXES) {
            return NONE;
        }
        Node at = openTask(node, PROPOSAL, index);
        if (at == null) {
            return NONE;
        }
        at.task.proposed = configuration(set, r, w);
        beginFirst(at);
        settle(at);
        return started(at);
    }

    public int retire(int node) {
        Node asked = find(node);
        if (asked == null) {
            return NONE;
        }
        int active = asked.sets.having(ACTIVE);
        if (Integer.bitCount(active) < 2) {
            return NONE;
        }
        int target = greatest(active);
        Node at = openTask(node, RETIREMENT, target);
        if (at == null) {
            return NONE;
        }
        at.task.old = active & ~(1 << target);
        beginFirst(at);
        settle(at);
        return started(at);
    }

    public int again(int node) {
        Node at = find(node);
        if (at == null || !at.isBusy()) {
            return NONE;
        }
        Task task = at.task;
        if (task.kind == PROPOSAL) {
            beginFirst(at);
            settle(at);
        } else {
            askAgain(at);
        }
        return at.isUp() ? Integer.bitCount(task.asked & ~task.answered) : DOWN;
    }

    // ---- messages

    public boolean gossip(int node, int to) {
        Node at = find(node);
        if (at == null || find(to) == null || node == to) {
            return false;
        }
        if (!at.isUp() || at.sets.having(ACTIVE) == 0) {
            return false;
        }
        draft.open(GOSSIP, at, to);
        draft.copies.copyFrom(at.cells);
        mail.send(draft);
        return true;
    }

    public boolean join(int node, int to) {
        Node at = find(node);
        if (at == null || find(to) == null || node == to) {
            return false;
        }
        if (at.state == FALLEN || at.isUp() && at.sets.having(ACTIVE) != 0) {
            return false;
        }
        at.state = UP;
        draft.open(JOIN, at, to);
        mail.send(draft);
        return true;
    }

    public int deliver(int i) {
        Message message = mail.takeOut(i);
        if (message == null) {
            return NONE;
        }
        Node at = find(message.to);
        if (at == null || !at.isUp()) {
            return 0;
        }
        int active = at.sets.having(ACTIVE);
        if (at.merge(message.sets)) {
            look(at, active);
            settle(at);
        }
        if (at.isUp() && isAnswer(message.kind)) {
            hear(at, message);
            settle(at);
        } else if (at.isUp()) {
            serve(at, message);
            sendReply(at);
        }
        return 1;
    }

    public boolean lose(int i) {
        return mail.takeOut(i) != null;
    }

    public boolean twice(int i) {
        Message message = mail.row(i);
        if (message == null || mail.size >= ROOM) {
            return false;
        }
        mail.send(message);
        return true;
    }

    // ---- nodes that go down and come back

    public boolean crash(int node) {
        Node at = find(node);
        if (at == null || !at.isUp()) {
            return false;
        }
        at.fall();
        return true;
    }

    public boolean restart(int node) {
        Node at = find(node);
        if (at == null || at.state != FALLEN) {
            return false;
        }
        at.state = UP;
        if (at.mayWrite()) {
            at.incarnation++;
        }
        return true;
    }

    public boolean arm(int node, int n) {
        Node at = find(node);
        if (at == null || !at.isUp() || n < 0 || n > MOST_ARMED) {
            return false;
        }
        at.armed = n;
        return true;
    }

    // ---- what can be seen

    public int node(int node, int what) {
        Node at = find(node);
        if (at == null) {
            return NONE;
        }
        switch (what) {
            case 0: return at.state;
            case 1: return at.incarnation;
            case 2: return at.round;
            case 3: return least(at.sets.having(ACTIVE));
            case 4: return greatest(at.sets.having(ACTIVE));
            case 5: return at.serial;
            case 6: return at.armed;
            default: return NONE;
        }
    }

    public int cell(int node, int object, int what) {
        Node at = find(node);
        if (at == null || !isObject(object)) {
            return NONE;
        }
        switch (what) {
            case 0: return at.cells.numberOf(object);
            case 1: return at.cells.writerOf(object);
            case 2: return at.cells.valueOf(object);
            default: return NONE;
        }
    }

    public int map(int node, int index, int what) {
        Node at = find(node);
        if (at == null || !isIndex(index)) {
            return NONE;
        }
        switch (what) {
            case 0: return at.sets.stateOf(index);
            case 1: return at.sets.configurationOf(index);
            case 2: return at.votes.promisedAt(index);
            case 3: return at.votes.acceptedAt(index);
            case 4: return at.votes.configurationAt(index);
            default: return NONE;
        }
    }

    public int task(int node, int what) {
        Node at = find(node);
        if (at == null || !at.isUp() || at.task.number == 0) {
            return NONE;
        }
        Task task = at.task;
        switch (what) {
            case 0: return task.number;
            case 1: return task.kind;
            case 2: return task.phase;
            case 3: return task.about;
            case 4: return task.result;
            case 5: return task.asked;
            case 6: return task.answered;
            case 7: return task.isOfObject() ? task.best.numberOf(task.about) : 0;
            case 8: return task.isOfObject() ? task.best.writerOf(task.about) : 0;
            case 9: return task.ballot;
            default: return NONE;
        }
    }

    public int message(int i, int what) {
        Message message = mail.row(i);
        if (message == null) {
            return NONE;
        }
        switch (what) {
            case 0: return message.kind;
            case 1: return message.from;
            case 2: return message.to;
            case 3: return message.incarnation;
            case 4: return message.serial;
            case 5: return message.about;
            case 6: return message.hasTag() ? message.copies.numberOf(message.about) : message.ballot;
            case 7: return message.hasTag() ? message.copies.writerOf(message.about) : message.configuration;
            case 8: return message.hasTag() ? message.copies.valueOf(message.about) : 0;
            case 9: return greatest(message.sets.having(ACTIVE));
            default: return NONE;
        }
    }

    public int count(int what) {
        switch (what) {
            case 0: return mail.size;
            case 1: return tasks;
            case 2: return writesOfAll();
            case 3: return nodesUp();
            case 4: return mail.lost;
            default: return NONE;
        }
    }

    private int writesOfAll() {
        int sum = 0;
        for (int i = 0; i < NODES; i++) {
            sum += nodes[i].writes;
        }
        return sum;
    }

    private int nodesUp() {
        int up = 0;
        for (int i = 0; i < NODES; i++) {
            up += nodes[i].isUp() ? 1 : 0;
        }
        return up;
    }

    // ---- numbers

    private Node find(int node) {
        return node >= 0 && node < NODES ? nodes[node] : null;
    }

    private static boolean isObject(int object) {
        return object >= 0 && object < OBJECTS;
    }

    private static boolean isIndex(int index) {
        return index >= 0 && index < INDEXES;
    }

    private static int nearest(int number, int most) {
        return Math.max(1, Math.min(number, most));
    }

    private static boolean isIn(int set, int number) {
        return (set >> number & 1) != 0;
    }

    private static int least(int indexes) {
        for (int i = 0; i < INDEXES; i++) {
            if (isIn(indexes, i)) {
                return i;
            }
        }
        return NONE;
    }

    private static int greatest(int indexes) {
        for (int i = INDEXES - 1; i >= 0; i--) {
            if (isIn(indexes, i)) {
                return i;
            }
        }
        return NONE;
    }

    private static boolean isConfiguration(int set, int r, int w) {
        if (set < 1 || set >= 1 << NODES) {
            return false;
        }
        int size = Integer.bitCount(set);
        return r >= 1 && r <= size && w >= 1 && w <= size && r + w > size;
    }

    private static int configuration(int set, int r, int w) {
        return set + 256 * r + 4096 * w;
    }

    private static int membersOf(int configuration) {
        return configuration & 255;
    }

    private static int readersOf(int configuration) {
        return configuration >> 8 & 15;
    }

    private static int writersOf(int configuration) {
        return configuration >> 12 & 15;
    }

    private static boolean isAnswer(int kind) {
        switch (kind) {
            case ANSWER:
            case STORED:
            case PROMISE:
            case ACCEPTED:
            case REFUSED:
            case COLLECTED:
            case SPREAD_OUT:
                return true;
            default:
                return false;
        }
    }

    // ---- how a task goes on

    /** The node with its new task, or null if it may have none now. */
    private Node openTask(int node, int kind, int about) {
        Node at = find(node);
        if (at == null || !at.isUp() || at.isBusy() || at.sets.having(ACTIVE) == 0) {
            return null;
        }
        tasks++;
        at.task.open(tasks, kind, about);
        return at;
    }

    private static int started(Node at) {
        return at.isUp() ? at.task.number : DOWN;
    }

    private void beginFirst(Node at) {
        Task task = at.task;
        at.openPhase(FIRST);
        task.best.copyFrom(at.cells);
        if (task.kind == PROPOSAL) {
            task.found = 0;
            task.chosen = task.proposed;
            at.raiseRound(at.round + 1);
            task.ballot = 8 * at.round + at.id;
        }
        ask(at);
    }

    private void beginSecond(Node at) {
        Task task = at.task;
        at.openPhase(SECOND);
        if (task.kind == WRITE) {
            task.best.put(task.about, task.best.numberOf(task.about) + 1, at.id, task.value);
        }
        if (task.isOfObject()) {
            at.take(task.best, 1 << task.about);
        }
        ask(at);
    }

    /** A node that went down on the way (by a write ahead of this, or by its own part) asks no more. */
    private void ask(Node at) {
        Task task = at.task;
        int set = at.sets.membersOfAll(concerned(at));
        draftRequest(at);
        for (int i = 0; i < NODES && at.isUp(); i++) {
            if (!isIn(set, i) || isIn(task.asked, i)) {
                continue;
            }
            task.asked |= 1 << i;
            if (i == at.id) {
                serve(at, draft);
                hear(at, reply);
            } else {
                draft.to = i;
                mail.send(draft);
            }
        }
    }

    private void askAgain(Node at) {
        int missing = at.task.asked & ~at.task.answered;
        draftRequest(at);
        for (int i = 0; i < NODES; i++) {
            if (isIn(missing, i)) {
                draft.to = i;
                mail.send(draft);
            }
        }
    }

    private void draftRequest(Node at) {
        Task task = at.task;
        draft.open(requestOf(task), at, at.id);
        draft.incarnation = at.incarnation;
        draft.serial = at.serial;
        draft.about = task.kind == RETIREMENT ? 0 : task.about;
        draft.ballot = task.ballot;
        draft.configuration = draft.kind == ACCEPT ? task.chosen : 0;
        draft.copies.copyFrom(task.best);
    }

    private static int requestOf(Task task) {
        boolean first = task.phase == FIRST;
        switch (task.kind) {
            case PROPOSAL: return first ? PREPARE : ACCEPT;
            case RETIREMENT: return first ? COLLECT : SPREAD;
            default: return first ? QUERY : STORE;
        }
    }

    /**
     * The indexes whose configurations the phase is about. Those of a PROPOSAL and a RETIREMENT stay
     * as they were at its beginning: an index once known never gets another configuration.
     */
    private static int concerned(Node at) {
        Task task = at.task;
        switch (task.kind) {
            case PROPOSAL: return 1 << (task.about - 1);
            case RETIREMENT: return task.phase == FIRST ? task.old : 1 << task.about;
            default: return at.sets.having(ACTIVE);
        }
    }

    private static boolean isEnough(Node at) {
        int indexes = concerned(at);
        for (int i = 0; i < INDEXES; i++) {
            int configuration = at.sets.configurationOf(i);
            int answered = Integer.bitCount(at.task.answered & membersOf(configuration));
            if (isIn(indexes, i) && answered < needed(at.task, configuration)) {
                return false;
            }
        }
        return true;
    }

    private static int needed(Task task, int configuration) {
        if (task.phase == SECOND) {
            return writersOf(configuration);
        }
        int readers = readersOf(configuration);
        return task.kind == RETIREMENT ? Math.max(readers, writersOf(configuration)) : readers;
    }

    /** Goes on as long as it is ENOUGH: at most from phase 1 to phase 2 and from there to the end. */
    private void settle(Node at) {
        for (int step = 0; step < 2 && at.isBusy() && isEnough(at); step++) {
            if (at.task.phase == FIRST) {
                beginSecond(at);
            } else {
                finish(at);
            }
        }
    }

    private static void finish(Node at) {
        Task task = at.task;
        if (task.kind == PROPOSAL) {
            at.mark(task.about, ACTIVE, task.chosen);
        }
        for (int i = 0; i < INDEXES && task.kind == RETIREMENT && at.isUp(); i++) {
            if (isIn(task.old, i) && at.sets.stateOf(i) == ACTIVE) {
                at.mark(i, RETIRED, at.sets.configurationOf(i));
            }
        }
        if (at.isUp()) {
            conclude(at);
        }
    }

    private static void conclude(Node at) {
        Task task = at.task;
        task.phase = FINISHED;
        switch (task.kind) {
            case PROPOSAL:
                task.result = at.sets.configurationOf(task.about) == task.proposed ? 1 : 0;
                break;
            case RETIREMENT:
                task.result = Integer.bitCount(task.old);
                break;
            default:
                task.result = task.best.valueOf(task.about);
                break;
        }
    }

    /** The node's task LOOKS at its MAP, which a message has changed; 'before' were the ACTIVE indexes. */
    private void look(Node at, int before) {
        Task task = at.task;
        if (!at.isBusy()) {
            return;
        }
        if (task.kind == PROPOSAL) {
            if (at.sets.stateOf(task.about) != UNKNOWN) {
                conclude(at);
            }
        } else if (task.isOfObject()) {
            if (task.phase == FIRST && (before & at.sets.having(RETIRED)) != 0) {
                beginFirst(at);
            } else {
                ask(at);
            }
        }
    }

    // ---- what a message asks

    /** Does what a request asks and leaves the answer in 'reply'; NOTHING is its kind if there is none. */
    private void serve(Node at, Message request) {
        reply.openAnswer(request, at.id);
        switch (request.kind) {
            case QUERY:
                reply.kind = ANSWER;
                reply.about = request.about;
                reply.copies.copyFrom(at.cells);
                break;
            case STORE:
                reply.kind = STORED;
                at.take(request.copies, 1 << request.about);
                break;
            case PREPARE:
            case ACCEPT:
                vote(at, request);
                break;
            case COLLECT:
                reply.kind = COLLECTED;
                reply.copies.copyFrom(at.cells);
                break;
            case SPREAD:
                reply.kind = SPREAD_OUT;
                at.take(request.copies, ALL_OBJECTS);
                break;
            case GOSSIP:
                at.take(request.copies, ALL_OBJECTS);
                break;
            case JOIN:
                reply.kind = at.sets.having(ACTIVE) != 0 ? GOSSIP : NOTHING;
                reply.copies.copyFrom(at.cells);
                break;
            default:
                break;
        }
    }

    private void vote(Node at, Message request) {
        int index = request.about;
        int promised = at.votes.promisedAt(index);
        reply.about = index;
        if (request.kind == PREPARE && request.ballot > promised) {
            reply.kind = PROMISE;
            reply.ballot = at.votes.acceptedAt(index);
            reply.configuration = at.votes.configurationAt(index);
            if (at.mayWrite()) {
                at.votes.put(index, request.ballot, reply.ballot, reply.configuration);
            }
        } else if (request.kind == ACCEPT && request.ballot >= promised) {
            reply.kind = ACCEPTED;
            boolean same = at.votes.isAs(index, request.ballot, request.ballot, request.configuration);
            if (!same && at.mayWrite()) {
                at.votes.put(index, request.ballot, request.ballot, request.configuration);
            }
        } else {
            reply.kind = REFUSED;
            reply.ballot = promised;
        }
    }

    private void sendReply(Node at) {
        if (at.isUp() && reply.kind != NOTHING) {
            reply.sets.copyFrom(at.sets);
            mail.send(reply);
        }
    }

    private static void hear(Node at, Message answer) {
        Task task = at.task;
        if (!at.isBusy() || answer.incarnation != at.incarnation || answer.serial != at.serial) {
            return;
        }
        if (isIn(task.answered, answer.from)) {
            return;
        }
        if (answer.kind == REFUSED) {
            at.raiseRound(answer.ballot / 8);
            return;
        }
        task.answered |= 1 << answer.from;
        if (answer.kind == ANSWER) {
            task.best.takeGreater(answer.copies, 1 << answer.about);
        } else if (answer.kind == COLLECTED) {
            task.best.takeGreater(answer.copies, ALL_OBJECTS);
        } else if (answer.kind == PROMISE && answer.ballot > task.found) {
            task.found = answer.ballot;
            task.chosen = answer.configuration;
        }
    }

    /** A TAG and a value for each object. */
    private static final class Copies {
        private final int[] number = new int[OBJECTS];
        private final int[] writer = new int[OBJECTS];
        private final int[] value = new int[OBJECTS];

        int numberOf(int object) {
            return isObject(object) ? number[object] : 0;
        }

        int writerOf(int object) {
            return isObject(object) ? writer[object] : 0;
        }

        int valueOf(int object) {
            return isObject(object) ? value[object] : 0;
        }

        void put(int object, int itsNumber, int itsWriter, int itsValue) {
            if (isObject(object)) {
                number[object] = itsNumber;
                writer[object] = itsWriter;
                value[object] = itsValue;
            }
        }

        void copyFrom(Copies other) {
            System.arraycopy(other.number, 0, number, 0, OBJECTS);
            System.arraycopy(other.writer, 0, writer, 0, OBJECTS);
            System.arraycopy(other.value, 0, value, 0, OBJECTS);
        }

        void takeGreater(Copies other, int objects) {
            for (int i = 0; i < OBJECTS; i++) {
                if (isIn(objects, i) && isLess(i, other)) {
                    putFrom(i, other);
                }
            }
        }

        void putFrom(int object, Copies other) {
            if (isObject(object)) {
                number[object] = other.number[object];
                writer[object] = other.writer[object];
                value[object] = other.value[object];
            }
        }

        boolean isLess(int object, Copies other) {
            if (!isObject(object)) {
                return false;
            }
            int mine = number[object];
            int its = other.number[object];
            return mine < its || mine == its && writer[object] < other.writer[object];
        }
    }

    /** The MAP: of each index its state and its configuration. */
    private static final class Sets {
        private final int[] state = new int[INDEXES];
        private final int[] configuration = new int[INDEXES];

        int stateOf(int index) {
            return isIndex(index) ? state[index] : UNKNOWN;
        }

        int configurationOf(int index) {
            return isIndex(index) ? configuration[index] : 0;
        }

        void put(int index, int itsState, int itsConfiguration) {
            if (isIndex(index)) {
                state[index] = itsState;
                configuration[index] = itsConfiguration;
            }
        }

        int having(int wanted) {
            int indexes = 0;
            for (int i = 0; i < INDEXES; i++) {
                if (state[i] == wanted) {
                    indexes |= 1 << i;
                }
            }
            return indexes;
        }

        int membersOfAll(int indexes) {
            int members = 0;
            for (int i = 0; i < INDEXES; i++) {
                if (isIn(indexes, i)) {
                    members |= membersOf(configuration[i]);
                }
            }
            return members;
        }

        void copyFrom(Sets other) {
            System.arraycopy(other.state, 0, state, 0, INDEXES);
            System.arraycopy(other.configuration, 0, configuration, 0, INDEXES);
        }

        boolean isBehind(Sets other) {
            for (int i = 0; i < INDEXES; i++) {
                if (other.state[i] > state[i]) {
                    return true;
                }
            }
            return false;
        }

        void takeGreater(Sets other) {
            for (int i = 0; i < INDEXES; i++) {
                if (other.state[i] > state[i]) {
                    state[i] = other.state[i];
                    configuration[i] = other.configuration[i];
                }
            }
        }
    }

    /** Of each index what a node has PROMISED and ACCEPTED. */
    private static final class Votes {
        private final int[] promised = new int[INDEXES];
        private final int[] accepted = new int[INDEXES];
        private final int[] configuration = new int[INDEXES];

        int promisedAt(int index) {
            return isIndex(index) ? promised[index] : 0;
        }

        int acceptedAt(int index) {
            return isIndex(index) ? accepted[index] : 0;
        }

        int configurationAt(int index) {
            return isIndex(index) ? configuration[index] : 0;
        }

        boolean isAs(int index, int promise, int ballot, int itsConfiguration) {
            return isIndex(index) && promised[index] == promise && accepted[index] == ballot
                && configuration[index] == itsConfiguration;
        }

        void put(int index, int promise, int ballot, int itsConfiguration) {
            if (isIndex(index)) {
                promised[index] = promise;
                accepted[index] = ballot;
                configuration[index] = itsConfiguration;
            }
        }
    }

    /** The task of a node that goes on or was DONE last; its number is 0 if there is none. */
    private static final class Task {
        int number;
        int kind;
        int phase;
        // The object, the index, or the TARGET.
        int about;
        int result;
        int asked;
        int answered;
        int ballot;
        // What a WRITE writes.
        int value;
        // What a PROPOSAL proposes, the greatest ACCEPTED ballot that it found, and what it asks for.
        int proposed;
        int found;
        int chosen;
        // The OLD indexes of a RETIREMENT, as a set.
        int old;
        final Copies best = new Copies();

        boolean isOfObject() {
            return kind == READ || kind == WRITE;
        }

        void open(int itsNumber, int itsKind, int itsAbout) {
            number = itsNumber;
            kind = itsKind;
            about = itsAbout;
            phase = FINISHED;
            result = 0;
            ballot = 0;
            value = 0;
            proposed = 0;
            old = 0;
        }
    }

    /** A node; every change of its cells asks mayWrite first, as that is where it may go down. */
    private static final class Node {
        final int id;
        int state = ABSENT;
        int incarnation = 1;
        int round = 0;
        int serial = 0;
        int armed = 0;
        int writes = 0;
        final Copies cells = new Copies();
        final Sets sets = new Sets();
        final Votes votes = new Votes();
        final Task task = new Task();

        Node(int itsId) {
            id = itsId;
        }

        boolean isUp() {
            return state == UP;
        }

        boolean isBusy() {
            return state == UP && task.phase != FINISHED;
        }

        void fall() {
            state = FALLEN;
            armed = 0;
            serial = 0;
            task.number = 0;
            task.phase = FINISHED;
        }

        boolean mayWrite() {
            if (state != UP) {
                return false;
            }
            if (armed == 1) {
                fall();
                return false;
            }
            armed = Math.max(0, armed - 1);
            writes++;
            return true;
        }

        void openPhase(int phase) {
            serial++;
            task.phase = phase;
            task.asked = 0;
            task.answered = 0;
        }

        void raiseRound(int to) {
            if (to > round && mayWrite()) {
                round = to;
            }
        }

        void take(Copies copies, int objects) {
            for (int i = 0; i < OBJECTS && isUp(); i++) {
                if (isIn(objects, i) && cells.isLess(i, copies) && mayWrite()) {
                    cells.putFrom(i, copies);
                }
            }
        }

        boolean merge(Sets other) {
            if (!sets.isBehind(other) || !mayWrite()) {
                return false;
            }
            sets.takeGreater(other);
            return true;
        }

        void mark(int index, int itsState, int configuration) {
            if (mayWrite()) {
                sets.put(index, itsState, configuration);
            }
        }
    }

    /** A message; of its copies those are meant that its kind has. */
    private static final class Message {
        int kind;
        int from;
        int to;
        int incarnation;
        int serial;
        // The object or the index.
        int about;
        int ballot;
        int configuration;
        final Sets sets = new Sets();
        final Copies copies = new Copies();

        boolean hasTag() {
            return kind == ANSWER || kind == STORE;
        }

        void clear() {
            kind = NOTHING;
            incarnation = 0;
            serial = 0;
            about = 0;
            ballot = 0;
            configuration = 0;
        }

        void open(int itsKind, Node sender, int receiver) {
            clear();
            kind = itsKind;
            from = sender.id;
            to = receiver;
            sets.copyFrom(sender.sets);
        }

        void openAnswer(Message request, int sender) {
            clear();
            from = sender;
            to = request.from;
            incarnation = request.incarnation;
            serial = request.serial;
        }

        void copyFrom(Message other) {
            kind = other.kind;
            from = other.from;
            to = other.to;
            incarnation = other.incarnation;
            serial = other.serial;
            about = other.about;
            ballot = other.ballot;
            configuration = other.configuration;
            sets.copyFrom(other.sets);
            copies.copyFrom(other.copies);
        }
    }

    /** The messages under way, in the order in which they were sent. */
    private static final class Mail {
        private final Message[] rows = new Message[ROOM];
        // A message that arrives is read while others are sent, so its row is not yet free for these.
        private Message taken = new Message();
        int size = 0;
        int lost = 0;

        Mail() {
            for (int i = 0; i < ROOM; i++) {
                rows[i] = new Message();
            }
        }

        Message row(int i) {
            return i >= 0 && i < size && i < ROOM ? rows[i] : null;
        }

        void send(Message message) {
            if (size >= ROOM) {
                lost++;
                return;
            }
            rows[size].copyFrom(message);
            size++;
        }

        Message takeOut(int i) {
            Message out = row(i);
            if (out == null) {
                return null;
            }
            for (int j = i; j + 1 < size && j + 1 < ROOM; j++) {
                rows[j] = rows[j + 1];
            }
            size--;
            rows[size] = taken;
            taken = out;
            return out;
        }
    }
}
