import java.util.ArrayList;
import java.util.Arrays;
import java.util.Comparator;
import java.util.List;
import java.util.TreeMap;
import java.util.TreeSet;

/**
 * The document once more, slow and plain: nothing is undone by contrary acts, all is done again from the rows;
 * queues are sorted when they are looked at; of all rings the best one is taken.
 */
final class Model {
    static final int BAD = -1, STATE = -2, FULL = -3, OLD = -6, NONE = -9;

    /** What one object has, of any sort. */
    static final class Obj {
        final int sort;
        final int parent;
        int value;
        final TreeSet<Integer> set = new TreeSet<>();
        final ArrayList<Integer> queue = new ArrayList<>();
        final TreeMap<Integer, Integer> map = new TreeMap<>();

        Obj(int sort, int parent, int value) {
            this.sort = sort;
            this.parent = parent;
            this.value = sort == 7 ? -1 : sort == 1 || sort == 2 || sort == 6 ? value : 0;
        }

        int digest() {
            int d = 17;
            switch (sort) {
                case 3:
                    int sum = 0;
                    for (int n : set) {
                        sum += 1 << n;
                    }
                    return sum;
                case 4:
                    for (int it : queue) {
                        d = 31 * d + it;
                    }
                    return d;
                case 5:
                    for (int key = 0; key < 8; key++) {
                        d = map.containsKey(key) ? 31 * d + map.get(key) + 1 : 31 * d;
                    }
                    return d;
                default:
                    return value;
            }
        }

        String all() {
            return sort + " " + parent + " " + value + " " + set + " " + queue + " " + map;
        }
    }

    /** All objects at one time, and the acts on them. */
    static final class World {
        final ArrayList<Obj> objects = new ArrayList<>();
        final ArrayList<Integer> bodies = new ArrayList<>();
        int finding;

        int act(int o, int kind, int a, int b) {
            bodies.clear();
            finding = 0;
            int answer = run(o, kind, a, b);
            return finding == 0 ? answer : 0;
        }

        private int find(int f) {
            finding = f;
            return 0;
        }

        private int run(int o, int kind, int a, int b) {
            Obj x = objects.get(o);
            String has = Model.HAS[kind];
            if (has.indexOf('0' + x.sort) < 0) {
                return find(2);
            }
            switch (kind) {
                case 0:
                    bodies.add(x.sort == 7 ? 2 : 1);
                    return x.value;
                case 1:
                    return add(x, a, a);
                case 2:
                    return by(x, a);
                case 3:
                case 17:
                    bodies.add(kind == 3 ? 6 : 21);
                    int before = x.value;
                    x.value = a;
                    return before;
                case 4:
                    bodies.add(7);
                    return x.set.add(a) ? 1 : 0;
                case 5:
                    bodies.add(8);
                    return x.set.remove(a) ? 1 : 0;
                case 6:
                    bodies.add(9);
                    return x.set.contains(a) ? 1 : 0;
                case 7:
                    bodies.add(x.sort == 3 ? 11 : 10);
                    return x.set.size() + x.queue.size() + x.map.size();
                case 8:
                case 9:
                case 10:
                case 11:
                    return queue(x, kind, a);
                case 12:
                case 13:
                case 14:
                    bodies.add(kind + 4);
                    if (kind != 12 && !x.map.containsKey(a)) {
                        return find(1);
                    }
                    int there = x.map.getOrDefault(a, 0);
                    if (kind == 12) {
                        x.map.put(a, b);
                    } else if (kind == 13) {
                        x.map.remove(a);
                    }
                    return there;
                case 15:
                    bodies.add(19);
                    return add(x, a, a);
                case 16:
                    bodies.add(20);
                    return add(x, -a, a);
                case 18:
                    bodies.add(22);
                    return x.value == -1 ? find(1) : run(x.value, 1, a, 0);
                case 19:
                    return move(o, x, a, b);
                case 20:
                    bodies.add(24);
                    int sum = 0;
                    for (int i = 0; i < objects.size(); i++) {
                        int sort = objects.get(i).sort;
                        if ((sort == 1 || sort == 2 || sort == 6) && foldersOf(i).contains(o)) {
                            bodies.add(1);
                            sum += objects.get(i).value;
                        }
                    }
                    return sum;
                default:
                    return a;
            }
        }

        private int move(int o, Obj x, int a, int b) {
            bodies.add(23);
            int was = x.value;
            int answer = run(o, 16, a, 0);
            if (finding == 0) {
                run(b, 15, a, 0);
            }
            if (finding != 0) {
                x.value = was;
            }
            return answer;
        }

        private int add(Obj x, int more, int answer) {
            if (x.sort == 6) {
                bodies.add(4);
                long sum = (long) x.value + more;
                if (sum < 0 || sum > 1000000000) {
                    return find(sum < 0 ? 6 : 7);
                }
            }
            bodies.add(3);
            x.value += more;
            return answer;
        }

        private int by(Obj x, int a) {
            if (x.sort == 6) {
                bodies.add(25);
                if (a < 0) {
                    return find(6);
                }
            }
            bodies.add(5);
            if (a == 0) {
                return find(3);
            }
            x.value = (int) ((long) x.value / a);
            return x.value;
        }

        private int queue(Obj x, int kind, int a) {
            bodies.add(kind + 4);
            switch (kind) {
                case 8:
                    if (x.queue.size() == 8) {
                        return find(7);
                    }
                    x.queue.add(a);
                    return x.queue.size() - 1;
                case 9:
                    return x.queue.isEmpty() ? find(8) : x.queue.remove(0);
                case 10:
                    return a < 0 || a >= x.queue.size() ? find(4) : x.queue.get(a);
                default:
                    if (a < 0) {
                        return find(5);
                    }
                    return a > x.queue.size() ? find(4) : x.queue.subList(0, a).stream().mapToInt(i -> i).sum();
            }
        }

        /** Outermost first. */
        ArrayList<Integer> foldersOf(int o) {
            ArrayList<Integer> folders = new ArrayList<>();
            for (int at = objects.get(o).parent; at != -1; at = objects.get(at).parent) {
                folders.add(0, at);
            }
            return folders;
        }

        String all() {
            StringBuilder text = new StringBuilder();
            for (Obj obj : objects) {
                text.append(obj.all()).append('\n');
            }
            return text.toString();
        }
    }

    static final String[] HAS = {"1267", "16", "16", "2", "3", "3", "3", "345", "4", "4", "4", "4", "5", "5", "5", "6",
        "6", "7", "7", "6", "0", "01234567"};
    static final List<Integer> READING = Arrays.asList(0, 6, 7, 10, 11, 14, 18, 20);

    static final class Tx {
        int n;
        int rank;
        int tries;
        int state = 1;
        int why;
        final ArrayList<Integer> levels = new ArrayList<>();
        int acts;
        int asked;
        int answer;
        int finding;
        int end = NONE;
        int o;
        int kind;
        int a;
        int b;
        int needsDone;
        Lk waiting;
    }

    static final class Lk {
        Tx tx;
        int o;
        int which;
        int kind = NONE;
        int a = NONE;
        int level;
        int forAct;
        long came;
    }

    static final class Rw {
        int[] told;
        boolean undone;
    }

    final ArrayList<Rw> log = new ArrayList<>();
    final ArrayList<Tx> txs = new ArrayList<>();
    final ArrayList<Lk> held = new ArrayList<>();
    final ArrayList<Lk> waiting = new ArrayList<>();
    World live = new World();
    ArrayList<Integer> trace = new ArrayList<>();
    ArrayList<Integer> ring = new ArrayList<>();
    int victim = NONE;
    int rule;
    int limit = 200;
    int group = 1;
    int forced;
    int sinceForce;
    int undone;
    int rings;
    int asked;
    int done;
    int findings;
    int locksAsked;
    int rests;
    long clock;

    private Tx tx(int t) {
        return t >= 1 && t <= txs.size() ? txs.get(t - 1) : null;
    }

    private boolean isObject(int o) {
        return o >= 0 && o < live.objects.size();
    }

    private ArrayList<Tx> underWay() {
        ArrayList<Tx> some = new ArrayList<>();
        for (Tx t : txs) {
            if (t.state <= 2) {
                some.add(t);
            }
        }
        return some;
    }

    private void addRow(int... told) {
        Rw row = new Rw();
        row.told = told;
        log.add(row);
    }

    /** All rows done again: those of ENDED ones in the order of their ENDS, or what is there now. */
    private World replay(boolean keptOnly, int ends) {
        World world = new World();
        for (int i = 0; i < log.size(); i++) {
            int[] r = log.get(i).told;
            if (r[0] == 0) {
                world.objects.add(new Obj(r[3], r[5], r[4]));
            }
            if (keptOnly && r[0] == 4 && r[6] <= ends) {
                for (Rw row : log.subList(0, i)) {
                    if (row.told[0] == 2 && row.told[1] == r[1] && !row.undone) {
                        world.act(row.told[2], row.told[3], row.told[4], row.told[5]);
                    }
                }
            }
            if (!keptOnly && r[0] == 2 && !log.get(i).undone && txs.get(r[1] - 1).state != 4) {
                world.act(r[2], r[3], r[4], r[5]);
            }
        }
        return world;
    }

    private int ends() {
        int many = 0;
        for (Tx t : txs) {
            many += t.state == 3 ? 1 : 0;
        }
        return many;
    }

    int make(int sort, int parent, int v) {
        boolean bad = sort < 0 || sort > 7;
        bad |= parent != -1 && (!isObject(parent) || live.objects.get(parent).sort != 0);
        bad |= sort == 6 && (v < 0 || v > 1000000000);
        if (bad) {
            return BAD;
        }
        if (!underWay().isEmpty()) {
            return STATE;
        }
        int depth = parent == -1 ? 0 : live.foldersOf(parent).size() + 1;
        if (live.objects.size() == 40 || (sort == 0 && depth == 5)) {
            return FULL;
        }
        Obj obj = new Obj(sort, parent, v);
        addRow(0, 0, live.objects.size(), sort, sort == 7 ? 0 : obj.value, parent, 0, -1);
        live.objects.add(obj);
        return live.objects.size() - 1;
    }

    int object(int o, int what) {
        if (!isObject(o) || what < 0 || what > 3) {
            return BAD;
        }
        Obj obj = live.objects.get(o);
        return what == 0 ? obj.sort : what == 1 ? obj.parent : what == 2 ? obj.digest()
                : replay(true, 999).objects.get(o).digest();
    }

    int begin(int rank) {
        return start(rank, 0);
    }

    private int start(int rank, int tries) {
        if (txs.size() == 400 || underWay().size() == 12) {
            return FULL;
        }
        Tx t = new Tx();
        t.n = txs.size() + 1;
        t.rank = rank;
        t.tries = tries;
        txs.add(t);
        addRow(1, t.n, -1, -1, 0, 0, 0, -1);
        return t.n;
    }

    int nest(int n) {
        Tx t = tx(n);
        if (t == null || t.state != 1) {
            return t == null ? BAD : STATE;
        }
        if (t.levels.size() == 4) {
            return FULL;
        }
        t.levels.add(t.acts);
        return t.levels.size();
    }

    int join(int n) {
        Tx t = tx(n);
        if (t == null || t.state != 1 || t.levels.isEmpty()) {
            return t == null ? BAD : STATE;
        }
        t.levels.remove(t.levels.size() - 1);
        for (Lk lk : held) {
            if (lk.tx == t) {
                lk.level = Math.min(lk.level, t.levels.size());
            }
        }
        return t.levels.size();
    }

    int back(int n) {
        Tx t = tx(n);
        if (t == null || t.state != 1 || t.levels.isEmpty()) {
            return t == null ? BAD : STATE;
        }
        int level = t.levels.size();
        int many = undoDownTo(t, t.levels.remove(level - 1));
        held.removeIf(lk -> lk.tx == t && lk.level == level);
        settle();
        return many;
    }

    int save(int n) {
        Tx t = tx(n);
        return t == null ? BAD : t.state != 1 ? STATE : t.acts;
    }

    int backTo(int n, int acts) {
        Tx t = tx(n);
        if (t == null || acts > t.acts || acts < (t.levels.isEmpty() ? 0 : t.levels.get(t.levels.size() - 1))) {
            return BAD;
        }
        return t.state != 1 ? STATE : undoDownTo(t, acts);
    }

    private int undoDownTo(Tx t, int left) {
        int many = 0;
        for (int i = log.size() - 1; i >= 0 && t.acts > left; i--) {
            Rw row = log.get(i);
            if (row.told[0] == 2 && row.told[1] == t.n && !row.undone) {
                row.undone = true;
                int[] told = row.told.clone();
                told[0] = 3;
                told[7] = i;
                addRow(told);
                t.acts--;
                many++;
            }
        }
        live = replay(false, 0);
        return many;
    }

    int end(int n) {
        Tx t = tx(n);
        if (t == null || t.state != 1 || !t.levels.isEmpty()) {
            return t == null ? BAD : STATE;
        }
        t.end = ends() + 1;
        t.state = 3;
        addRow(4, n, -1, -1, 0, 0, t.end, -1);
        sinceForce++;
        if (sinceForce >= group) {
            forced = log.size();
            sinceForce = 0;
        }
        held.removeIf(lk -> lk.tx == t);
        settle();
        return t.end;
    }

    int undo(int n) {
        Tx t = tx(n);
        if (t == null || t.state > 2) {
            return t == null ? BAD : STATE;
        }
        int many = gone(t, 3);
        settle();
        return many;
    }

    private int gone(Tx t, int why) {
        int many = undoDownTo(t, 0);
        addRow(5, t.n, -1, -1, 0, 0, 0, -1);
        held.removeIf(lk -> lk.tx == t);
        waiting.removeIf(lk -> lk.tx == t);
        t.waiting = null;
        t.levels.clear();
        t.state = 4;
        t.why = why;
        undone++;
        live = replay(false, 0);
        return many;
    }

    int retry(int n) {
        Tx t = tx(n);
        if (t == null) {
            return BAD;
        }
        return t.state == 4 && (t.why == 1 || t.why == 2) ? start(t.rank, t.tries + 1) : STATE;
    }

    private boolean wrongA(int kind, int a) {
        switch (kind) {
            case 4:
            case 5:
            case 6:
                return a < 0 || a > 31;
            case 12:
            case 13:
            case 14:
                return a < 0 || a > 7;
            case 15:
            case 16:
            case 19:
                return a < 0 || a > 1000;
            case 21:
                return a < 0 || a > 1;
            case 11:
                return a > 64;
            case 17:
                return a < -1 || a >= live.objects.size();
            default:
                return false;
        }
    }

    int act(int n, int o, int kind, int a, int b) {
        Tx t = tx(n);
        if (t == null || !isObject(o) || kind < 0 || kind > 21 || wrongA(kind, a)) {
            return BAD;
        }
        if (kind == 19 && (!isObject(b) || b == o)) {
            return BAD;
        }
        if (t.state != 1) {
            return STATE;
        }
        if (asked == 700) {
            return FULL;
        }
        if (t.asked + 1 > limit) {
            gone(t, 2);
            settle();
            return 2;
        }
        asked++;
        t.asked++;
        t.o = o;
        t.kind = kind;
        t.a = a;
        t.b = b;
        t.needsDone = 0;
        goOn(t);
        settle();
        return t.state == 4 ? 2 : t.state == 2 ? 0 : t.finding == 0 ? 1 : -10 - t.finding;
    }

    private static boolean reading(int kind, int a) {
        return READING.contains(kind) || (kind == 21 && a == 0);
    }

    private void need(List<Lk> needs, Tx t, int o, int kind, int a) {
        ArrayList<Integer> path = live.foldersOf(o);
        path.add(o);
        for (int at : path) {
            Lk lk = new Lk();
            lk.tx = t;
            lk.o = at;
            lk.level = t.levels.size();
            lk.forAct = t.asked;
            if (at != o) {
                lk.which = reading(kind, a) ? 0 : 1;
            } else if (kind == 20 || kind == 21) {
                lk.which = kind == 21 && a == 1 ? 3 : 2;
            } else {
                lk.which = 4;
                lk.kind = kind;
                lk.a = a;
            }
            needs.add(lk);
        }
    }

    /** All that the act needs, as far as can be said now. */
    private List<Lk> needs(Tx t) {
        ArrayList<Lk> needs = new ArrayList<>();
        if (t.kind == 19 && t.b < t.o) {
            need(needs, t, t.b, 15, t.a);
            need(needs, t, t.o, 16, t.a);
        } else if (t.kind == 19) {
            need(needs, t, t.o, 16, t.a);
            need(needs, t, t.b, 15, t.a);
        } else {
            need(needs, t, t.o, t.kind, t.a);
            Obj x = live.objects.get(t.o);
            if (t.kind == 18 && x.sort == 7 && x.value != -1) {
                need(needs, t, x.value, 1, t.a);
            }
        }
        return needs;
    }

    static boolean commutes(int sort, int kind, int a, int kind2, int a2) {
        if (kind >= 20 || kind2 >= 20) {
            return false;
        }
        if (READING.contains(kind) && READING.contains(kind2)) {
            return true;
        }
        TreeSet<Integer> both = new TreeSet<>(Arrays.asList(kind, kind2));
        return (sort == 1 && both.equals(new TreeSet<>(Arrays.asList(1))))
                || (sort == 6 && both.equals(new TreeSet<>(Arrays.asList(15))))
                || (sort == 3 && a != a2 && Arrays.asList(4, 5, 6).containsAll(both))
                || (sort == 5 && a != a2 && Arrays.asList(12, 13, 14).containsAll(both));
    }

    private boolean conflict(Lk p, Lk q) {
        if (p.tx == q.tx || p.o != q.o) {
            return false;
        }
        if (p.which == 3 || q.which == 3) {
            return true;
        }
        if (p.which == 4 && q.which == 4) {
            return !commutes(live.objects.get(p.o).sort, p.kind, p.a, q.kind, q.a);
        }
        for (Lk[] pair : new Lk[][] {{p, q}, {q, p}}) {
            boolean writes = pair[1].which == 1 || (pair[1].which == 4 && !reading(pair[1].kind, pair[1].a));
            if (pair[0].which == 2 && writes) {
                return true;
            }
        }
        return false;
    }

    private boolean holdsAny(Tx t, int o) {
        return held.stream().anyMatch(lk -> lk.tx == t && lk.o == o);
    }

    private ArrayList<Lk> queue(int o) {
        ArrayList<Lk> some = new ArrayList<>();
        for (Lk lk : waiting) {
            if (lk.o == o) {
                some.add(lk);
            }
        }
        some.sort(Comparator.comparing((Lk lk) -> !holdsAny(lk.tx, o)).thenComparing(lk -> lk.came));
        return some;
    }

    /** Whom a lock, which stands among the waits, waits for. */
    private TreeSet<Integer> blockers(Lk lk) {
        TreeSet<Integer> some = new TreeSet<>();
        for (Lk other : held) {
            if (conflict(lk, other)) {
                some.add(other.tx.n);
            }
        }
        for (Lk other : queue(lk.o)) {
            if (other == lk) {
                break;
            }
            if (conflict(lk, other)) {
                some.add(other.tx.n);
            }
        }
        return some;
    }

    private void goOn(Tx t) {
        while (t.needsDone < needs(t).size()) {
            Lk lk = needs(t).get(t.needsDone);
            locksAsked++;
            boolean had = held.stream().anyMatch(
                    h -> h.tx == t && h.o == lk.o && h.which == lk.which && h.kind == lk.kind && h.a == lk.a);
            if (!had) {
                lk.came = ++clock;
                waiting.add(lk);
                if (!blockers(lk).isEmpty()) {
                    t.waiting = lk;
                    t.state = 2;
                    breakRings(t);
                    return;
                }
                waiting.remove(lk);
                held.add(lk);
            }
            t.needsDone++;
        }
        int target = t.kind == 18 ? live.objects.get(t.o).value : t.b;
        int answer = live.act(t.o, t.kind, t.a, t.b);
        trace = new ArrayList<>(live.bodies);
        t.finding = live.finding;
        if (t.finding != 0) {
            findings++;
            held.removeIf(h -> h.tx == t && h.forAct == t.asked);
            return;
        }
        done++;
        t.acts++;
        t.answer = answer;
        addRow(2, t.n, t.o, t.kind, t.a, target, answer, -1);
    }

    private void settle() {
        boolean again = true;
        while (again) {
            again = false;
            for (int o = 0; o < live.objects.size() && !again; o++) {
                for (Lk lk : queue(o)) {
                    if (blockers(lk).isEmpty()) {
                        waiting.remove(lk);
                        held.add(lk);
                        lk.tx.waiting = null;
                        lk.tx.state = 1;
                        lk.tx.needsDone++;
                        goOn(lk.tx);
                        again = true;
                        break;
                    }
                }
            }
        }
    }

    private void paths(ArrayList<Integer> path, ArrayList<ArrayList<Integer>> found) {
        Tx last = tx(path.get(path.size() - 1));
        if (last.waiting == null) {
            return;
        }
        for (int next : blockers(last.waiting)) {
            if (next == path.get(0)) {
                found.add(new ArrayList<>(path));
            } else if (!path.contains(next)) {
                path.add(next);
                paths(path, found);
                path.remove(path.size() - 1);
            }
        }
    }

    private static int compareRings(ArrayList<Integer> p, ArrayList<Integer> q) {
        if (p.size() != q.size()) {
            return p.size() - q.size();
        }
        return Arrays.compare(p.stream().mapToInt(i -> i).toArray(), q.stream().mapToInt(i -> i).toArray());
    }

    private void breakRings(Tx t) {
        while (t.state == 2) {
            ArrayList<ArrayList<Integer>> found = new ArrayList<>();
            paths(new ArrayList<>(Arrays.asList(t.n)), found);
            if (found.isEmpty()) {
                return;
            }
            found.sort(Model::compareRings);
            ring = found.get(0);
            rings++;
            ArrayList<Tx> members = new ArrayList<>();
            for (int n : ring) {
                members.add(tx(n));
            }
            members.sort(Comparator.comparingInt((Tx m) -> rule == 1 ? m.acts : rule == 2 ? m.rank : rule == 3 ? m.tries
                    : 0).thenComparingInt(m -> -m.n));
            victim = members.get(0).n;
            gone(members.get(0), 1);
        }
    }

    int of(int n, int what) {
        Tx t = tx(n);
        if (t == null || what < 0 || what > 11) {
            return BAD;
        }
        int locks = (int) held.stream().filter(lk -> lk.tx == t).count();
        int[] all = {t.state, t.why, t.levels.size(), t.rank, t.tries, t.acts, t.asked, t.answer, t.finding,
            t.waiting == null ? NONE : t.waiting.o, locks, t.end};
        return all[what];
    }

    private int tell(ArrayList<Lk> some, int i, int what) {
        if (i < 0 || i >= some.size()) {
            return NONE;
        }
        Lk lk = some.get(i);
        return new int[] {lk.tx.n, lk.which, lk.kind, lk.a}[what];
    }

    int lock(int o, int i, int what) {
        if (!isObject(o) || what < 0 || what > 3) {
            return BAD;
        }
        ArrayList<Lk> there = new ArrayList<>(held);
        there.removeIf(lk -> lk.o != o);
        return tell(there, i, what);
    }

    int waits(int o, int i, int what) {
        return !isObject(o) || what < 0 || what > 3 ? BAD : tell(queue(o), i, what);
    }

    int ring(int i) {
        return i == -1 ? victim : i < 0 || i >= ring.size() ? NONE : ring.get(i);
    }

    int rule(int r) {
        int was = rule;
        rule = r < 0 || r > 3 ? was : r;
        return r < 0 || r > 3 ? BAD : was;
    }

    int limit(int n) {
        int was = limit;
        limit = n < 1 || n > 200 ? was : n;
        return n < 1 || n > 200 ? BAD : was;
    }

    int group(int n) {
        int was = group;
        group = n < 1 || n > 20 ? was : n;
        return n < 1 || n > 20 ? BAD : was;
    }

    int rest() {
        if (!underWay().isEmpty()) {
            return STATE;
        }
        if (rests == 100) {
            return FULL;
        }
        rests++;
        addRow(6, 0, -1, -1, 0, 0, 0, -1);
        forced = log.size();
        sinceForce = 0;
        return log.size();
    }

    int cut(int n) {
        if (n < 0 || n > log.size()) {
            return BAD;
        }
        TreeSet<Integer> staying = new TreeSet<>();
        for (Rw row : log.subList(0, n)) {
            if (row.told[0] == 4) {
                staying.add(row.told[1]);
            }
        }
        for (Tx t : txs) {
            if (t.state != 4 && !staying.contains(t.n)) {
                t.state = 4;
                t.why = 4;
                t.acts = 0;
                t.levels.clear();
                t.end = NONE;
                t.waiting = null;
                undone++;
            }
        }
        log.subList(n, log.size()).clear();
        held.clear();
        waiting.clear();
        ring.clear();
        victim = NONE;
        forced = n;
        sinceForce = 0;
        live = replay(true, 999);
        return ends();
    }

    int crash() {
        return cut(forced);
    }

    int row(int i, int what) {
        return what < 0 || what > 7 ? BAD : i < 0 || i >= log.size() ? NONE : log.get(i).told[what];
    }

    int ended(int e) {
        for (Tx t : txs) {
            if (t.state == 3 && t.end == e) {
                return t.n;
            }
        }
        return NONE;
    }

    private boolean writesOn(int[] r, int o) {
        if (r[0] != 2) {
            return false;
        }
        switch (r[3]) {
            case 18:
                return r[5] == o;
            case 19:
                return r[2] == o || r[5] == o;
            case 21:
                return false;
            default:
                return r[2] == o && !READING.contains(r[3]);
        }
    }

    int version(int o, int e) {
        if (!isObject(o) || e < 0) {
            return BAD;
        }
        TreeSet<Integer> told = new TreeSet<>(Arrays.asList(0));
        for (int end = 1; end <= ends(); end++) {
            for (Rw row : log) {
                if (row.told[1] == ended(end) && !row.undone && writesOn(row.told, o)) {
                    told.add(end);
                }
            }
        }
        while (told.size() > 16) {
            told.pollFirst();
        }
        Integer at = told.floor(e);
        return at == null ? OLD : replay(true, at).objects.get(o).digest();
    }

    /** Whether those that ENDED answer as they did, one after the other. */
    int serial() {
        World world = new World();
        for (int i = 0; i < log.size(); i++) {
            int[] r = log.get(i).told;
            if (r[0] == 0) {
                world.objects.add(new Obj(r[3], r[5], r[4]));
            }
            for (Rw row : r[0] == 4 ? log.subList(0, i) : new ArrayList<Rw>()) {
                int[] act = row.told;
                boolean own = act[0] == 2 && act[1] == r[1] && !row.undone;
                if (own && (world.act(act[2], act[3], act[4], act[5]) != act[6] || world.finding != 0)) {
                    return 0;
                }
            }
        }
        return 1;
    }

    int trace(int i) {
        return i < 0 || i >= trace.size() || i >= 16 ? NONE : trace.get(i);
    }

    int count(int what) {
        ArrayList<Tx> now = underWay();
        int run = (int) now.stream().filter(t -> t.state == 1).count();
        int[] all = {live.objects.size(), txs.size(), run, now.size() - run, ends(), undone, rings, held.size(), asked,
            done, findings, log.size(), forced, locksAsked, locksAsked, limit, rule, group};
        return what < 0 || what >= all.length ? BAD : all[what];
    }

    int digest() {
        int d = 17;
        for (Obj obj : live.objects) {
            d = 31 * d + obj.digest();
        }
        return d;
    }

    int commute(int sort, int kind, int a, int kind2, int a2) {
        boolean bad = sort < 0 || sort > 7 || kind < 0 || kind > 21 || kind2 < 0 || kind2 > 21;
        return bad ? BAD : commutes(sort, kind, a, kind2, a2) ? 1 : 0;
    }

    private boolean cannotTry(int sort, int kind, int a) {
        boolean no = sort < 0 || sort > 7 || kind < 0 || kind > 17 || HAS[kind].indexOf('0' + sort) < 0;
        return no || (kind == 17 ? a != -1 : wrongA(kind, a));
    }

    int tried(int sort, int kind, int a, int kind2, int a2) {
        if (cannotTry(sort, kind, a) || cannotTry(sort, kind2, a2)) {
            return BAD;
        }
        for (int first = 0; first < 9; first++) {
            World[] both = {small(sort, first), small(sort, first)};
            String one = told(both[0], kind, a);
            one = one + "," + told(both[0], kind2, a2);
            String second = told(both[1], kind2, a2);
            String other = told(both[1], kind, a) + "," + second;
            if (!one.equals(other) || !both[0].all().equals(both[1].all())) {
                return 0;
            }
        }
        return 1;
    }

    private static String told(World world, int kind, int a) {
        int answer = world.act(0, kind, a, 1);
        return world.finding + ":" + answer;
    }

    private static World small(int sort, int n) {
        World world = new World();
        Obj obj = new Obj(sort, -1, n % 4);
        world.objects.add(obj);
        for (int i = 0; i < 3 && sort == 3; i++) {
            if ((n >> i & 1) == 1) {
                obj.set.add(i);
            }
        }
        if (sort == 4 && n % 3 > 0) {
            obj.queue.add(n % 3 - 1);
        }
        if (sort == 5 && n % 3 > 0) {
            obj.map.put(0, n % 3 - 1);
        }
        if (sort == 5 && n / 3 > 0) {
            obj.map.put(1, n / 3 - 1);
        }
        return world;
    }
}
