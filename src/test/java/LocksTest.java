/** Promises 15 lock, 16 waits, 17 ring, 18 rule, 19 limit, and what LOCKS, SETTLING, RINGS say. */
public final class LocksTest {
    private static final Check CHECK = new Check("LocksTest");

    private static void due(String call, long got, long want) {
        CHECK.due(call, got, want);
    }

    public static void main(String[] args) {
        folderLocks();
        secondNeeds();
        heldAlready();
        telling();
        lockConflicts();
        actConflicts();
        findingFreesItsLocks();
        queueOrder();
        holdersComeAhead();
        settlingOrder();
        ringOfTwo();
        ringByShortest();
        ringByNumbers();
        ringWhileSettling();
        ringsInOneCall();
        victimsByRule();
        rules();
        CHECK.close();
    }

    private static void lockIs(HoldHouse x, int o, int i, int... want) {
        for (int what = 0; what < 4; what++) {
            int due = what < want.length ? want[what] : Kinds.NONE;
            due("lock(" + o + ", " + i + ", " + what + ")", x.lock(o, i, what), due);
        }
    }

    private static void waitIs(HoldHouse x, int o, int i, int... want) {
        for (int what = 0; what < 4; what++) {
            int due = what < want.length ? want[what] : Kinds.NONE;
            due("waits(" + o + ", " + i + ", " + what + ")", x.waits(o, i, what), due);
        }
    }

    private static HoldHouse withRegisters(int many, int begun) {
        HoldHouse x = new HoldHouse();
        for (int i = 0; i < many; i++) {
            x.make(2, -1, i);
        }
        for (int t = 1; t <= begun; t++) {
            x.begin(0);
        }
        return x;
    }

    private static void folderLocks() {
        HoldHouse x = new HoldHouse();
        x.make(0, -1, 0);
        x.make(0, 0, 0);
        x.make(2, 1, 0);
        x.begin(0);
        x.act(1, 2, Kinds.GET, 5, 0);
        lockIs(x, 0, 0, 1, Kinds.IS);
        lockIs(x, 1, 0, 1, Kinds.IS);
        lockIs(x, 2, 0, 1, Kinds.ACT, Kinds.GET, 5);
        x.act(1, 2, Kinds.PUT, 6, 0);
        lockIs(x, 0, 1, 1, Kinds.IX);
        lockIs(x, 1, 1, 1, Kinds.IX);
        lockIs(x, 2, 1, 1, Kinds.ACT, Kinds.PUT, 6);
        x.act(1, 1, Kinds.SUM, 0, 0);
        lockIs(x, 1, 2, 1, Kinds.S);
        x.act(1, 2, Kinds.HOLD, 0, 0);
        lockIs(x, 2, 2, 1, Kinds.S);
        x.act(1, 2, Kinds.HOLD, 1, 0);
        lockIs(x, 2, 3, 1, Kinds.X);
        due("outer folder", x.lock(0, 2, 0), Kinds.NONE);
        due("locks", x.count(7), 9);
        due("locks of 1", x.of(1, 10), 9);
        due("asked for", x.count(13), 3 + 3 + 2 + 3 + 3);
        due("come back from", x.count(14), 14);
        x.end(1);
        x.begin(0);
        x.act(2, 2, Kinds.HOLD, 1, 0);
        lockIs(x, 0, 0, 2, Kinds.IX);
        x.undo(2);
        x.begin(0);
        x.act(3, 2, Kinds.HOLD, 0, 0);
        lockIs(x, 0, 0, 3, Kinds.IS);
    }

    private static void secondNeeds() {
        HoldHouse x = new HoldHouse();
        x.make(0, -1, 0);
        x.make(7, 0, 0);
        x.make(0, -1, 0);
        x.make(1, 2, 0);
        x.make(6, 2, 100);
        x.make(6, 0, 100);
        x.begin(0);
        x.act(1, 1, Kinds.POINT, 3, 0);
        x.end(1);
        x.begin(0);
        due("bump", x.act(2, 1, Kinds.BUMP, 8, 0), 1);
        lockIs(x, 0, 0, 2, Kinds.IS);
        lockIs(x, 1, 0, 2, Kinds.ACT, Kinds.BUMP, 8);
        lockIs(x, 2, 0, 2, Kinds.IX);
        lockIs(x, 3, 0, 2, Kinds.ACT, Kinds.ADD, 8);
        due("locks", x.count(7), 4);
        x.undo(2);
        x.begin(0);
        due("move to the lesser", x.act(3, 5, Kinds.MOVE, 8, 4), 1);
        lockIs(x, 2, 0, 3, Kinds.IX);
        lockIs(x, 4, 0, 3, Kinds.ACT, Kinds.PAY, 8);
        lockIs(x, 0, 0, 3, Kinds.IX);
        lockIs(x, 5, 0, 3, Kinds.ACT, Kinds.DRAW, 8);
        due("locks", x.count(7), 4);
        x.undo(3);
        x.begin(0);
        x.begin(0);
        x.act(4, 4, Kinds.GET, 0, 0);
        due("move, the lesser first", x.act(5, 5, Kinds.MOVE, 8, 4), 0);
        due("waits at the lesser", x.of(5, 9), 4);
        due("not yet at the other", x.lock(5, 0, 0), Kinds.NONE);
        x.end(4);
        due("done", x.of(5, 5), 1);
        x.undo(5);
        x.begin(0);
        x.begin(0);
        x.act(6, 1, Kinds.POINT, 4, 0);
        due("bump waits for the point", x.act(7, 1, Kinds.BUMP, 1, 0), 0);
        x.end(6);
        due("bump took the new number", x.object(4, 2), 101);
        due("in its row", x.row(x.count(11) - 1, 5), 4);
        due("no lock on the old one", x.lock(3, 0, 0), Kinds.NONE);
    }

    private static void heldAlready() {
        HoldHouse x = withRegisters(1, 1);
        x.act(1, 0, Kinds.PUT, 1, 0);
        x.act(1, 0, Kinds.PUT, 1, 0);
        due("one lock", x.count(7), 1);
        due("asked for twice", x.count(13), 2);
        x.act(1, 0, Kinds.PUT, 2, 0);
        due("another a, another lock", x.count(7), 2);
        x.act(1, 0, Kinds.GET, 2, 0);
        due("another kind, another lock", x.count(7), 3);
        lockIs(x, 0, 2, 1, Kinds.ACT, Kinds.GET, 2);
    }

    private static void telling() {
        HoldHouse x = withRegisters(1, 2);
        x.act(1, 0, Kinds.PUT, 1, 0);
        x.act(2, 0, Kinds.HOLD, 0, 0);
        waitIs(x, 0, 0, 2, Kinds.S);
        due("lock i", x.lock(0, 1, 0), Kinds.NONE);
        due("lock i", x.lock(0, -1, 0), Kinds.NONE);
        due("lock o", x.lock(1, 0, 0), Kinds.BAD);
        due("lock o", x.lock(-1, 0, 0), Kinds.BAD);
        due("lock what", x.lock(0, 0, 4), Kinds.BAD);
        due("lock what", x.lock(0, 0, -1), Kinds.BAD);
        due("lock what, bad ahead", x.lock(0, 9, 4), Kinds.BAD);
        due("waits i", x.waits(0, 1, 0), Kinds.NONE);
        due("waits i", x.waits(0, -1, 0), Kinds.NONE);
        due("waits o", x.waits(1, 0, 0), Kinds.BAD);
        due("waits what", x.waits(0, 0, 4), Kinds.BAD);
        due("waits what, bad ahead", x.waits(0, 9, -1), Kinds.BAD);
        due("waiting", x.count(3), 1);
        due("running", x.count(2), 1);
    }

    /** Which of IS, IX, S, X, a READING ACT, a WRITING ACT on a FOLDER one may have beside another's first four. */
    private static void lockConflicts() {
        String[] beside = {"111011", "110011", "101010", "000000"};
        for (int first = 0; first < 4; first++) {
            for (int second = 0; second < 6; second++) {
                HoldHouse x = new HoldHouse();
                x.make(0, -1, 0);
                x.make(2, 0, 0);
                x.make(1, 0, 0);
                x.begin(0);
                x.begin(0);
                take(x, 1, first, 1);
                int got = take(x, 2, second, 2);
                boolean free = beside[first].charAt(second) == '1';
                // A FOLDER has neither GET nor ADD: those that need not wait for their locks come to a FINDING.
                int granted = second >= 4 ? Kinds.KIND : 1;
                due("lock " + second + " beside " + first, got, free ? granted : 0);
            }
        }
        HoldHouse x = new HoldHouse();
        x.make(1, -1, 0);
        x.make(1, -1, 0);
        x.begin(0);
        x.begin(0);
        x.begin(0);
        due("get", x.act(1, 0, Kinds.GET, 0, 0), 1);
        due("S beside a reading act", x.act(2, 0, Kinds.HOLD, 0, 0), 1);
        due("X beside a reading act", x.act(3, 0, Kinds.HOLD, 1, 0), 0);
        due("add", x.act(1, 1, Kinds.ADD, 0, 0), 1);
        due("S beside a writing act", x.act(2, 1, Kinds.HOLD, 0, 0), 0);
    }

    private static int take(HoldHouse x, int t, int which, int inner) {
        switch (which) {
            case 0:
                return x.act(t, inner, Kinds.GET, 0, 0);
            case 1:
                return x.act(t, inner, inner == 1 ? Kinds.PUT : Kinds.ADD, 0, 0);
            case 2:
                return x.act(t, 0, Kinds.HOLD, 0, 0);
            case 3:
                return x.act(t, 0, Kinds.HOLD, 1, 0);
            case 4:
                return x.act(t, 0, Kinds.GET, 0, 0);
            default:
                return x.act(t, 0, Kinds.ADD, 0, 0);
        }
    }

    private static void actConflicts() {
        for (int sort = 1; sort < 8; sort++) {
            for (int kind = 0; kind < 18; kind++) {
                for (int kind2 = 0; kind2 < 18; kind2++) {
                    for (int a2 = 0; a2 < 2; a2++) {
                        HoldHouse x = new HoldHouse();
                        x.make(sort, -1, 5);
                        x.make(2, -1, 0);
                        x.begin(0);
                        x.begin(0);
                        x.begin(0);
                        if (sort == 4) {
                            x.act(3, 0, Kinds.ENTER, 0, 0);
                            x.act(3, 0, Kinds.ENTER, 0, 0);
                        }
                        if (sort == 5) {
                            x.act(3, 0, Kinds.STORE, 0, 0);
                        }
                        x.end(3);
                        if (x.act(1, 0, kind, 0, 0) != 1) {
                            continue;
                        }
                        int how = x.act(2, 0, kind2, a2, 0);
                        boolean free = x.commute(sort, kind, 0, kind2, a2) == 1;
                        due("kind " + kind2 + " beside " + kind + " on " + sort, how != 0 ? 1 : 0, free ? 1 : 0);
                    }
                }
            }
        }
    }

    private static void findingFreesItsLocks() {
        HoldHouse x = new HoldHouse();
        x.make(0, -1, 0);
        x.make(6, 0, 5);
        x.make(6, 0, 5);
        x.begin(0);
        x.begin(0);
        x.act(1, 1, Kinds.GET, 0, 0);
        due("locks", x.count(7), 2);
        due("2 waits", x.act(2, 2, Kinds.MOVE, 6, 1), 0);
        due("2 holds IX", x.count(7), 3);
        due("1 looks at the other", x.act(1, 2, Kinds.GET, 0, 0), 1);
        due("end of 1", x.end(1), 1);
        due("2 has a finding", x.of(2, 8), 6);
        due("2 runs", x.of(2, 0), Kinds.RUNNING);
        due("its locks are free, those of earlier calls too", x.count(7), 0);
        due("draw", x.act(2, 2, Kinds.DRAW, 5, 0), 1);
        due("finding", x.act(2, 2, Kinds.DRAW, 5, 0), Kinds.SHORT);
        due("held before, held still", x.count(7), 2);
        due("finding", x.act(2, 2, Kinds.DRAW, 4, 0), Kinds.SHORT);
        due("only what was new is free", x.count(7), 2);
    }

    private static void queueOrder() {
        HoldHouse x = withRegisters(1, 5);
        x.act(1, 0, Kinds.GET, 0, 0);
        due("2 put", x.act(2, 0, Kinds.PUT, 2, 0), 0);
        due("3 get stands behind the put", x.act(3, 0, Kinds.GET, 0, 0), 0);
        due("4 get too", x.act(4, 0, Kinds.GET, 1, 0), 0);
        due("5 put", x.act(5, 0, Kinds.PUT, 5, 0), 0);
        waitIs(x, 0, 0, 2, Kinds.ACT, Kinds.PUT, 2);
        waitIs(x, 0, 1, 3, Kinds.ACT, Kinds.GET, 0);
        waitIs(x, 0, 2, 4, Kinds.ACT, Kinds.GET, 1);
        waitIs(x, 0, 3, 5, Kinds.ACT, Kinds.PUT, 5);
        x.undo(2);
        due("3 went on", x.of(3, 7), 0);
        due("4 went on", x.of(4, 5), 1);
        waitIs(x, 0, 0, 5, Kinds.ACT, Kinds.PUT, 5);
        lockIs(x, 0, 0, 1, Kinds.ACT, Kinds.GET, 0);
        lockIs(x, 0, 1, 3, Kinds.ACT, Kinds.GET, 0);
        lockIs(x, 0, 2, 4, Kinds.ACT, Kinds.GET, 1);
        due("not asked for again", x.count(13), 5);
    }

    private static void holdersComeAhead() {
        HoldHouse x = withRegisters(1, 5);
        x.act(1, 0, Kinds.GET, 0, 0);
        x.act(2, 0, Kinds.GET, 0, 0);
        x.act(3, 0, Kinds.PUT, 3, 0);
        due("a holder passes the queue", x.act(2, 0, Kinds.GET, 7, 0), 1);
        due("another waits behind", x.act(4, 0, Kinds.GET, 0, 0), 0);
        due("a holder waits", x.act(1, 0, Kinds.PUT, 1, 0), 0);
        waitIs(x, 0, 0, 1, Kinds.ACT, Kinds.PUT, 1);
        waitIs(x, 0, 1, 3, Kinds.ACT, Kinds.PUT, 3);
        waitIs(x, 0, 2, 4, Kinds.ACT, Kinds.GET, 0);
        due("a holder behind a holder that waits, no ring yet", x.ring(-1), Kinds.NONE);
        due("a reading holder stands behind it", x.act(2, 0, Kinds.AT, 0, 0), 2);
        due("which is a ring of 2 and 1", x.ring(0), 2);
        due("which is a ring of 2 and 1", x.ring(1), 1);
        due("its victim", x.ring(-1), 2);
        due("1 went on", x.of(1, 5), 2);
        due("3 waits", x.of(3, 9), 0);
        due("end", x.end(1), 1);
        due("3 went on", x.object(0, 2), 3);
        due("4 waits", x.of(4, 0), Kinds.WAITING);
    }

    private static void settlingOrder() {
        HoldHouse x = withRegisters(3, 4);
        x.act(1, 2, Kinds.PUT, 1, 0);
        x.act(1, 0, Kinds.PUT, 1, 0);
        x.act(2, 2, Kinds.GET, 0, 0);
        x.act(3, 0, Kinds.GET, 0, 0);
        x.act(4, 0, Kinds.GET, 0, 0);
        int rows = x.count(11);
        x.end(1);
        due("the end", x.row(rows, 0), 4);
        due("then the least object, the first there", x.row(rows + 1, 1), 3);
        due("then the next there", x.row(rows + 2, 1), 4);
        due("then the next object", x.row(rows + 3, 1), 2);
        due("forced at the end alone", x.count(12), rows + 1);
    }

    private static void ringOfTwo() {
        HoldHouse x = withRegisters(2, 2);
        x.act(1, 0, Kinds.PUT, 11, 0);
        x.act(2, 1, Kinds.PUT, 12, 0);
        due("1 waits", x.act(1, 1, Kinds.PUT, 13, 0), 0);
        due("2 closes the ring", x.act(2, 0, Kinds.PUT, 14, 0), 2);
        due("victim", x.ring(-1), 2);
        due("from the one that began to wait", x.ring(0), 2);
        due("then", x.ring(1), 1);
        due("end", x.ring(2), Kinds.NONE);
        due("below", x.ring(-2), Kinds.NONE);
        due("why", x.of(2, 1), 1);
        due("1 went on", x.object(1, 2), 13);
        due("and has the value before", x.of(1, 7), 1);
        due("rings", x.count(6), 1);
        due("undone", x.count(5), 1);
        due("retry", x.retry(2), 3);
        due("cut", x.cut(2), 0);
        due("no ring", x.ring(0), Kinds.NONE);
        due("no victim", x.ring(-1), Kinds.NONE);
        due("rings in all", x.count(6), 1);
    }

    private static void ringByShortest() {
        HoldHouse x = withRegisters(4, 4);
        x.rule(2);
        x.act(1, 0, Kinds.PUT, 1, 0);
        x.act(2, 1, Kinds.PUT, 1, 0);
        x.act(3, 2, Kinds.GET, 0, 0);
        x.act(4, 2, Kinds.GET, 0, 0);
        due("4 waits for 1", x.act(4, 0, Kinds.PUT, 2, 0), 0);
        due("2 waits for 1 and 4", x.act(2, 0, Kinds.GET, 0, 0), 0);
        due("3 waits for 2", x.act(3, 1, Kinds.GET, 0, 0), 0);
        // 1 waits for 3 and 4: 1 3 2 (1) and 1 4 (1).
        due("1 closes, and is done", x.act(1, 2, Kinds.PUT, 3, 0), 1);
        due("rings", x.count(6), 2);
        due("4 was the first victim", x.of(4, 1), 1);
        due("then 1 3 2", x.ring(0), 1);
        due("then 1 3 2", x.ring(1), 3);
        due("then 1 3 2", x.ring(2), 2);
        due("victim, the greatest number", x.ring(-1), 3);
        due("1 went on", x.of(1, 0), Kinds.RUNNING);
    }

    private static void ringByNumbers() {
        HoldHouse x = withRegisters(4, 5);
        // Two rings of three from 1 on: 1 2 5, and 1 3 4.
        x.act(1, 0, Kinds.PUT, 1, 0);
        x.act(5, 1, Kinds.PUT, 1, 0);
        x.act(4, 2, Kinds.PUT, 1, 0);
        x.act(3, 3, Kinds.GET, 0, 0);
        x.act(2, 3, Kinds.GET, 0, 0);
        due("3 waits for 4", x.act(3, 2, Kinds.GET, 0, 0), 0);
        due("2 waits for 5", x.act(2, 1, Kinds.GET, 0, 0), 0);
        due("4 waits for 1", x.act(4, 0, Kinds.GET, 0, 0), 0);
        due("5 waits for 1", x.act(5, 0, Kinds.GET, 0, 0), 0);
        due("1 closes both", x.act(1, 3, Kinds.PUT, 9, 0), 0);
        due("two rings", x.count(6), 2);
        due("first 5 of 1 2 5", x.of(5, 1), 1);
        due("then 1 3 4", x.ring(1), 3);
        due("then 1 3 4", x.ring(2), 4);
        due("victim 4", x.ring(-1), 4);
        due("1 waits for what 2 and 3 hold", x.of(1, 9), 3);
        due("2 went on", x.of(2, 0), Kinds.RUNNING);
        due("3 went on", x.of(3, 0), Kinds.RUNNING);
        x.end(2);
        due("1 waits for 3", x.of(1, 9), 3);
        x.end(3);
        due("1 went on", x.of(1, 0), Kinds.RUNNING);
    }

    private static void ringWhileSettling() {
        HoldHouse x = new HoldHouse();
        x.make(6, -1, 100);
        x.make(6, -1, 100);
        for (int t = 1; t <= 4; t++) {
            x.begin(0);
        }
        x.act(1, 0, Kinds.GET, 0, 0);
        due("2 waits to move", x.act(2, 0, Kinds.MOVE, 1, 1), 0);
        x.act(3, 1, Kinds.GET, 0, 0);
        due("3 waits behind 2", x.act(3, 0, Kinds.GET, 0, 0), 0);
        // 2 gets 0, goes on to 1, which 3 holds: 2 3.
        due("end of 1", x.end(1), 1);
        due("ring", x.ring(0), 2);
        due("ring", x.ring(1), 3);
        due("victim", x.ring(-1), 3);
        due("2 went on", x.of(2, 5), 1);
        due("moved", x.object(1, 2), 101);
    }

    private static void ringsInOneCall() {
        HoldHouse x = withRegisters(3, 3);
        x.act(1, 0, Kinds.PUT, 1, 0);
        x.act(2, 1, Kinds.GET, 0, 0);
        x.act(3, 1, Kinds.GET, 0, 0);
        due("2 waits", x.act(2, 0, Kinds.GET, 0, 0), 0);
        due("3 waits", x.act(3, 0, Kinds.GET, 0, 0), 0);
        due("1 closes two, both others are undone", x.act(1, 1, Kinds.PUT, 1, 0), 1);
        due("rings", x.count(6), 2);
        due("first 2 by numbers, then 3", x.ring(1), 3);
        due("undone", x.count(5), 2);
        due("row of the first gone", x.row(x.count(11) - 4, 1), 2);
    }

    private static int victim(int rule, int rank1, int rank2, int more1, int more2) {
        HoldHouse x = new HoldHouse();
        x.make(2, -1, 0);
        x.make(2, -1, 0);
        x.make(2, -1, 0);
        x.make(2, -1, 0);
        x.begin(rank1);
        x.begin(rank2);
        x.rule(rule);
        x.act(1, 0, Kinds.PUT, 1, 0);
        x.act(2, 1, Kinds.PUT, 1, 0);
        for (int i = 0; i < more1; i++) {
            x.act(1, 2, Kinds.GET, 0, 0);
        }
        for (int i = 0; i < more2; i++) {
            x.act(2, 3, Kinds.GET, 0, 0);
        }
        x.act(1, 1, Kinds.PUT, 1, 0);
        x.act(2, 0, Kinds.PUT, 1, 0);
        return x.ring(-1);
    }

    private static void victimsByRule() {
        due("rule 0", victim(0, 0, 9, 0, 9), 2);
        due("rule 1, fewest acts", victim(1, 0, 0, 0, 1), 1);
        due("rule 1, fewest acts", victim(1, 0, 0, 1, 0), 2);
        due("rule 1, like ones", victim(1, 0, 5, 2, 2), 2);
        due("rule 2, least rank", victim(2, -1, 0, 5, 0), 1);
        due("rule 2, least rank", victim(2, Integer.MAX_VALUE, Integer.MIN_VALUE, 0, 0), 2);
        due("rule 2, least rank", victim(2, Integer.MIN_VALUE, Integer.MAX_VALUE, 0, 0), 1);
        due("rule 2, like ones", victim(2, 3, 3, 0, 1), 2);
        due("rule 3, like ones", victim(3, 0, 9, 0, 9), 2);
        HoldHouse x = withRegisters(2, 2);
        x.act(1, 0, Kinds.PUT, 1, 0);
        x.act(2, 1, Kinds.PUT, 1, 0);
        x.act(1, 1, Kinds.PUT, 1, 0);
        due("ring", x.act(2, 0, Kinds.PUT, 1, 0), 2);
        x.undo(1);
        due("3 begins", x.begin(0), 3);
        due("2 again", x.retry(2), 4);
        x.rule(3);
        x.act(3, 0, Kinds.PUT, 1, 0);
        x.act(4, 1, Kinds.PUT, 1, 0);
        x.act(3, 1, Kinds.PUT, 1, 0);
        due("4 closes, and is done", x.act(4, 0, Kinds.PUT, 1, 0), 1);
        due("fewest tries", x.ring(-1), 3);
    }

    private static void rules() {
        HoldHouse x = new HoldHouse();
        due("rule -1", x.rule(-1), Kinds.BAD);
        due("rule 4", x.rule(4), Kinds.BAD);
        due("rule 3", x.rule(3), 0);
        due("rule 0", x.rule(0), 3);
        due("rule 2", x.rule(2), 0);
        due("count", x.count(16), 2);
        due("limit 0", x.limit(0), Kinds.BAD);
        due("limit 201", x.limit(201), Kinds.BAD);
        due("limit 1", x.limit(1), 200);
        due("limit 200", x.limit(200), 1);
        due("limit 7", x.limit(7), 200);
        due("count", x.count(15), 7);
    }
}
