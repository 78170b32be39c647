import java.util.ArrayList;
import java.util.Arrays;
import java.util.Collections;
import java.util.List;
import java.util.TreeSet;

/**
 * The document a second time, in another manner than the class: lists, sets and records that are never
 * changed, and an exception wherever a node goes down, so that nothing behind it can be done.
 */
final class Model {
    private static final class GoneDown extends RuntimeException {
        private static final long serialVersionUID = 1L;
    }

    private record Copy(int number, int writer, int value) {
        boolean beats(Copy other) {
            return number > other.number || number == other.number && writer > other.writer;
        }
    }

    private record Configuration(TreeSet<Integer> members, int r, int w) {
        int code() {
            int set = 0;
            for (int member : members) {
                set += 1 << member;
            }
            return set + 256 * r + 4096 * w;
        }

        static Configuration of(int code) {
            TreeSet<Integer> members = new TreeSet<>();
            for (int i = 0; i < 8; i++) {
                if ((code & 1 << i) != 0) {
                    members.add(i);
                }
            }
            return new Configuration(members, code / 256 % 16, code / 4096);
        }

        int present(TreeSet<Integer> answered) {
            TreeSet<Integer> both = new TreeSet<>(members);
            both.retainAll(answered);
            return both.size();
        }
    }

    private record Entry(int state, int code) { }

    private record Vote(int promised, int accepted, int code) { }

    private record Letter(int kind, int from, int to, int incarnation, int serial, int about,
            int ballot, int code, List<Copy> copies, List<Entry> map) { }

    private static final class Task {
        int number;
        int kind;
        int phase;
        int about;
        int result;
        TreeSet<Integer> asked = new TreeSet<>();
        TreeSet<Integer> answered = new TreeSet<>();
        List<Copy> best = new ArrayList<>();
        int value;
        int ballot;
        Configuration proposed;
        Configuration base;
        List<Vote> promises = new ArrayList<>();
        Configuration wished;
        List<Integer> old = new ArrayList<>();
        List<Configuration> oldSets = new ArrayList<>();
        Configuration target;
    }

    private static final class Node {
        int id;
        int state;
        int incarnation = 1;
        int round;
        int serial;
        int armed;
        List<Copy> cells = new ArrayList<>(Collections.nCopies(4, new Copy(0, 0, 0)));
        List<Entry> map = new ArrayList<>(Collections.nCopies(16, new Entry(0, 0)));
        List<Vote> votes = new ArrayList<>(Collections.nCopies(16, new Vote(0, 0, 0)));
        Task task;
    }

    private final List<Node> nodes = new ArrayList<>();
    private final List<Letter> letters = new ArrayList<>();
    private int tasks;
    private int writes;
    private int lost;

    Model(int n, int r, int w) {
        int size = n < 1 ? 1 : n > 8 ? 8 : n;
        int reads = r < 1 ? 1 : r > size ? size : r;
        int stores = w < 1 ? 1 : w > size ? size : w;
        if (reads + stores <= size) {
            stores = size + 1 - reads;
        }
        TreeSet<Integer> all = new TreeSet<>();
        for (int i = 0; i < size; i++) {
            all.add(i);
        }
        for (int i = 0; i < 8; i++) {
            Node node = new Node();
            node.id = i;
            if (i < size) {
                node.state = 1;
                node.map.set(0, new Entry(1, new Configuration(all, reads, stores).code()));
            }
            nodes.add(node);
        }
    }

    // ---- the cells and their writes

    private void beforeWrite(Node node) {
        if (node.armed == 1) {
            goDown(node);
            throw new GoneDown();
        }
        if (node.armed > 1) {
            node.armed--;
        }
        writes++;
    }

    private static void goDown(Node node) {
        node.state = 2;
        node.armed = 0;
        node.task = null;
        node.serial = 0;
    }

    private void setCell(Node node, int object, Copy copy) {
        if (copy.beats(node.cells.get(object))) {
            beforeWrite(node);
            node.cells.set(object, copy);
        }
    }

    private void setRound(Node node, int round) {
        if (round > node.round) {
            beforeWrite(node);
            node.round = round;
        }
    }

    private void setVote(Node node, int index, Vote vote) {
        if (!vote.equals(node.votes.get(index))) {
            beforeWrite(node);
            node.votes.set(index, vote);
        }
    }

    private void setMap(Node node, List<Entry> map) {
        if (!map.equals(node.map)) {
            beforeWrite(node);
            node.map = new ArrayList<>(map);
        }
    }

    private void setEntry(Node node, int index, Entry entry) {
        List<Entry> map = new ArrayList<>(node.map);
        map.set(index, entry);
        setMap(node, map);
    }

    private static List<Integer> active(List<Entry> map) {
        List<Integer> indexes = new ArrayList<>();
        for (int i = 0; i < 16; i++) {
            if (map.get(i).state == 1) {
                indexes.add(i);
            }
        }
        return indexes;
    }

    private static int last(List<Integer> indexes) {
        return indexes.isEmpty() ? -1 : indexes.get(indexes.size() - 1);
    }

    // ---- tasks

    private Node ready(int node) {
        if (node < 0 || node > 7) {
            return null;
        }
        Node at = nodes.get(node);
        boolean busy = at.task != null && at.task.phase != 0;
        return at.state != 1 || busy || active(at.map).isEmpty() ? null : at;
    }

    private int start(Node at, Task task) {
        tasks++;
        task.number = tasks;
        at.task = task;
        try {
            firstPhase(at);
        } catch (GoneDown down) {
            return -9;
        }
        return task.number;
    }

    int read(int node, int object) {
        return ofObject(node, object, 1, 0);
    }

    int write(int node, int object, int v) {
        return ofObject(node, object, 2, v);
    }

    private int ofObject(int node, int object, int kind, int v) {
        Node at = ready(node);
        if (at == null || object < 0 || object > 3) {
            return -1;
        }
        Task task = new Task();
        task.kind = kind;
        task.about = object;
        task.value = v;
        return start(at, task);
    }

    int propose(int node, int set, int r, int w) {
        Node at = ready(node);
        if (at == null || (set & 255) != set || set == 0) {
            return -1;
        }
        int size = Integer.bitCount(set);
        if (r < 1 || r > size || w < 1 || w > size || r + w <= size || last(active(at.map)) == 15) {
            return -1;
        }
        Task task = new Task();
        task.kind = 3;
        task.about = last(active(at.map)) + 1;
        task.base = Configuration.of(at.map.get(task.about - 1).code);
        task.proposed = Configuration.of(set + 256 * r + 4096 * w);
        return start(at, task);
    }

    int retire(int node) {
        Node at = ready(node);
        if (at == null || active(at.map).size() == 1) {
            return -1;
        }
        Task task = new Task();
        task.kind = 4;
        task.old = active(at.map);
        task.about = task.old.remove(task.old.size() - 1);
        for (int index : task.old) {
            task.oldSets.add(Configuration.of(at.map.get(index).code));
        }
        task.target = Configuration.of(at.map.get(task.about).code);
        return start(at, task);
    }

    int again(int node) {
        Node at = node < 0 || node > 7 ? null : nodes.get(node);
        if (at == null || at.state != 1 || at.task == null || at.task.phase == 0) {
            return -1;
        }
        Task task = at.task;
        if (task.kind == 3) {
            try {
                firstPhase(at);
            } catch (GoneDown down) {
                return -9;
            }
        } else {
            for (int i : task.asked) {
                if (!task.answered.contains(i)) {
                    send(request(at, i));
                }
            }
        }
        TreeSet<Integer> missing = new TreeSet<>(task.asked);
        missing.removeAll(task.answered);
        return missing.size();
    }

    private void newPhase(Node at, int phase) {
        at.serial++;
        at.task.phase = phase;
        at.task.asked = new TreeSet<>();
        at.task.answered = new TreeSet<>();
    }

    private void firstPhase(Node at) {
        Task task = at.task;
        newPhase(at, 1);
        task.best = new ArrayList<>(at.cells);
        if (task.kind == 3) {
            task.promises = new ArrayList<>();
            setRound(at, at.round + 1);
            task.ballot = at.round * 8 + at.id;
        }
        askAll(at);
        seeWhetherEnough(at);
    }

    private void secondPhase(Node at) {
        Task task = at.task;
        newPhase(at, 2);
        if (task.kind == 2) {
            task.best.set(task.about, new Copy(task.best.get(task.about).number + 1, at.id, task.value));
        }
        if (task.kind <= 2) {
            setCell(at, task.about, task.best.get(task.about));
        }
        if (task.kind == 3) {
            Vote greatest = new Vote(0, 0, task.proposed.code());
            for (Vote vote : task.promises) {
                greatest = vote.accepted > greatest.accepted ? vote : greatest;
            }
            task.wished = Configuration.of(greatest.code);
        }
        askAll(at);
        seeWhetherEnough(at);
    }

    private List<Configuration> sets(Node at) {
        Task task = at.task;
        if (task.kind == 3) {
            return List.of(task.base);
        }
        if (task.kind == 4) {
            return task.phase == 1 ? task.oldSets : List.of(task.target);
        }
        List<Configuration> all = new ArrayList<>();
        for (int index : active(at.map)) {
            all.add(Configuration.of(at.map.get(index).code));
        }
        return all;
    }

    private void askAll(Node at) {
        TreeSet<Integer> union = new TreeSet<>();
        for (Configuration configuration : sets(at)) {
            union.addAll(configuration.members);
        }
        union.removeAll(at.task.asked);
        for (int i : union) {
            at.task.asked.add(i);
            if (i == at.id) {
                count(at, perform(at, request(at, i)));
            } else {
                send(request(at, i));
            }
        }
    }

    private Letter request(Node at, int to) {
        Task task = at.task;
        int kind = new int[] {1, 1, 5, 10}[task.kind - 1] + (task.phase == 1 ? 0 : 2);
        return new Letter(kind, at.id, to, at.incarnation, at.serial, task.kind == 4 ? 0 : task.about,
            task.ballot, kind == 7 ? task.wished.code() : 0, List.copyOf(task.best), List.copyOf(at.map));
    }

    private void seeWhetherEnough(Node at) {
        Task task = at.task;
        if (task == null || task.phase == 0) {
            return;
        }
        for (Configuration c : sets(at)) {
            int needed = task.phase == 2 ? c.w : task.kind == 4 ? Math.max(c.r, c.w) : c.r;
            if (c.present(task.answered) < needed) {
                return;
            }
        }
        if (task.phase == 1) {
            secondPhase(at);
        } else {
            complete(at);
        }
    }

    private void complete(Node at) {
        Task task = at.task;
        if (task.kind <= 2) {
            task.result = task.best.get(task.about).value;
        } else if (task.kind == 3) {
            setEntry(at, task.about, new Entry(1, task.wished.code()));
            task.result = task.wished.code() == task.proposed.code() ? 1 : 0;
        } else {
            for (int index : task.old) {
                if (at.map.get(index).state == 1) {
                    setEntry(at, index, new Entry(2, at.map.get(index).code));
                }
            }
            task.result = task.old.size();
        }
        task.phase = 0;
    }

    private void looks(Node at, List<Integer> before) {
        Task task = at.task;
        if (task == null || task.phase == 0 || task.kind == 4) {
            return;
        }
        if (task.kind == 3) {
            Entry entry = at.map.get(task.about);
            if (entry.state != 0) {
                task.phase = 0;
                task.result = entry.code == task.proposed.code() ? 1 : 0;
            }
            return;
        }
        boolean gone = false;
        for (int index : before) {
            gone |= at.map.get(index).state == 2;
        }
        if (gone && task.phase == 1) {
            firstPhase(at);
        } else {
            askAll(at);
            seeWhetherEnough(at);
        }
    }

    // ---- messages

    private void send(Letter letter) {
        if (letters.size() == 120) {
            lost++;
        } else {
            letters.add(letter);
        }
    }

    boolean gossip(int node, int to) {
        if (node < 0 || node > 7 || to < 0 || to > 7 || node == to) {
            return false;
        }
        Node at = nodes.get(node);
        if (at.state != 1 || active(at.map).isEmpty()) {
            return false;
        }
        send(new Letter(14, node, to, 0, 0, 0, 0, 0, List.copyOf(at.cells), List.copyOf(at.map)));
        return true;
    }

    boolean join(int node, int to) {
        if (node < 0 || node > 7 || to < 0 || to > 7 || node == to) {
            return false;
        }
        Node at = nodes.get(node);
        if (at.state == 2 || at.state == 1 && !active(at.map).isEmpty()) {
            return false;
        }
        at.state = 1;
        send(new Letter(15, node, to, 0, 0, 0, 0, 0, List.copyOf(at.cells), List.copyOf(at.map)));
        return true;
    }

    int deliver(int i) {
        if (i < 0 || i >= letters.size()) {
            return -1;
        }
        Letter letter = letters.remove(i);
        Node at = nodes.get(letter.to);
        if (at.state != 1) {
            return 0;
        }
        try {
            arrive(at, letter);
        } catch (GoneDown down) {
            return 1;
        }
        return 1;
    }

    private void arrive(Node at, Letter letter) {
        List<Integer> before = active(at.map);
        List<Entry> merged = new ArrayList<>(at.map);
        for (int i = 0; i < 16; i++) {
            if (letter.map.get(i).state > merged.get(i).state) {
                merged.set(i, letter.map.get(i));
            }
        }
        if (!merged.equals(at.map)) {
            setMap(at, merged);
            looks(at, before);
        }
        if (Arrays.asList(2, 4, 6, 8, 9, 11, 13).contains(letter.kind)) {
            count(at, letter);
            seeWhetherEnough(at);
        } else {
            Letter answer = perform(at, letter);
            if (answer != null) {
                send(answer);
            }
        }
    }

    private Letter answer(Node at, Letter q, int kind, int about, int ballot, int code) {
        return new Letter(kind, at.id, q.from, q.incarnation, q.serial, about, ballot, code,
            List.copyOf(at.cells), List.copyOf(at.map));
    }

    private Letter perform(Node at, Letter q) {
        Vote vote = at.votes.get(q.kind == 5 || q.kind == 7 ? q.about : 0);
        switch (q.kind) {
            case 1:
                return answer(at, q, 2, q.about, 0, 0);
            case 3:
                setCell(at, q.about, q.copies.get(q.about));
                return answer(at, q, 4, 0, 0, 0);
            case 5:
                if (q.ballot <= vote.promised) {
                    return answer(at, q, 9, q.about, vote.promised, 0);
                }
                setVote(at, q.about, new Vote(q.ballot, vote.accepted, vote.code));
                return answer(at, q, 6, q.about, vote.accepted, vote.code);
            case 7:
                if (q.ballot < vote.promised) {
                    return answer(at, q, 9, q.about, vote.promised, 0);
                }
                setVote(at, q.about, new Vote(q.ballot, q.ballot, q.code));
                return answer(at, q, 8, q.about, 0, 0);
            case 10:
                return answer(at, q, 11, 0, 0, 0);
            case 12:
            case 14:
                for (int object = 0; object < 4; object++) {
                    setCell(at, object, q.copies.get(object));
                }
                return q.kind == 14 ? null : answer(at, q, 13, 0, 0, 0);
            default:
                return active(at.map).isEmpty() ? null : answer(at, q, 14, 0, 0, 0);
        }
    }

    private void count(Node at, Letter a) {
        Task task = at.task;
        if (task == null || task.phase == 0 || a.incarnation != at.incarnation || a.serial != at.serial) {
            return;
        }
        if (task.answered.contains(a.from)) {
            return;
        }
        if (a.kind == 9) {
            setRound(at, a.ballot / 8);
            return;
        }
        task.answered.add(a.from);
        if (a.kind == 6) {
            task.promises.add(new Vote(0, a.ballot, a.code));
        }
        for (int object = 0; object < 4; object++) {
            boolean told = a.kind == 11 || a.kind == 2 && a.about == object;
            if (told && a.copies.get(object).beats(task.best.get(object))) {
                task.best.set(object, a.copies.get(object));
            }
        }
    }

    boolean lose(int i) {
        if (i < 0 || i >= letters.size()) {
            return false;
        }
        letters.remove(i);
        return true;
    }

    boolean twice(int i) {
        if (i < 0 || i >= letters.size() || letters.size() == 120) {
            return false;
        }
        letters.add(letters.get(i));
        return true;
    }

    // ---- nodes

    boolean crash(int node) {
        if (node < 0 || node > 7 || nodes.get(node).state != 1) {
            return false;
        }
        goDown(nodes.get(node));
        return true;
    }

    boolean restart(int node) {
        if (node < 0 || node > 7 || nodes.get(node).state != 2) {
            return false;
        }
        nodes.get(node).state = 1;
        nodes.get(node).incarnation++;
        writes++;
        return true;
    }

    boolean arm(int node, int n) {
        if (node < 0 || node > 7 || nodes.get(node).state != 1 || n < 0 || n > 100) {
            return false;
        }
        nodes.get(node).armed = n;
        return true;
    }

    // ---- what can be seen

    private static int pick(int what, int... answers) {
        return what < 0 || what >= answers.length ? -1 : answers[what];
    }

    private static int bits(TreeSet<Integer> set) {
        int bits = 0;
        for (int member : set) {
            bits |= 1 << member;
        }
        return bits;
    }

    int node(int node, int what) {
        if (node < 0 || node > 7) {
            return -1;
        }
        Node at = nodes.get(node);
        List<Integer> active = active(at.map);
        return pick(what, at.state, at.incarnation, at.round, active.isEmpty() ? -1 : active.get(0), last(active),
            at.serial, at.armed);
    }

    int cell(int node, int object, int what) {
        if (node < 0 || node > 7 || object < 0 || object > 3) {
            return -1;
        }
        Copy copy = nodes.get(node).cells.get(object);
        return pick(what, copy.number, copy.writer, copy.value);
    }

    int map(int node, int index, int what) {
        if (node < 0 || node > 7 || index < 0 || index > 15) {
            return -1;
        }
        Entry entry = nodes.get(node).map.get(index);
        Vote vote = nodes.get(node).votes.get(index);
        return pick(what, entry.state, entry.code, vote.promised, vote.accepted, vote.code);
    }

    int task(int node, int what) {
        if (node < 0 || node > 7 || nodes.get(node).state != 1 || nodes.get(node).task == null) {
            return -1;
        }
        Task t = nodes.get(node).task;
        Copy best = t.kind <= 2 ? t.best.get(t.about) : new Copy(0, 0, 0);
        return pick(what, t.number, t.kind, t.phase, t.about, t.result, bits(t.asked), bits(t.answered),
            best.number, best.writer, t.ballot);
    }

    int message(int i, int what) {
        if (i < 0 || i >= letters.size()) {
            return -1;
        }
        Letter m = letters.get(i);
        Copy copy = m.kind == 2 || m.kind == 3 ? m.copies.get(m.about) : new Copy(m.ballot, m.code, 0);
        return pick(what, m.kind, m.from, m.to, m.incarnation, m.serial, m.about, copy.number, copy.writer,
            copy.value, last(active(m.map)));
    }

    int count(int what) {
        int up = 0;
        for (Node node : nodes) {
            up += node.state == 1 ? 1 : 0;
        }
        return pick(what, letters.size(), tasks, writes, up, lost);
    }
}
