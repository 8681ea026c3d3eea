/** Promises 4 begin, 5 nest, 6 join, 7 back, 8 save, 9 backTo, 10 end, 11 undo, 12 retry, 14 of. */
public final class TransactionsTest {
    private static final Check CHECK = new Check("TransactionsTest");

    private static void due(String call, long got, long want) {
        CHECK.due(call, got, want);
    }

    public static void main(String[] args) {
        beginning();
        fourHundred();
        levels();
        backFreesOnlyItsLocks();
        joinLowersLocks();
        points();
        ending();
        undoing();
        undoOfEachKind();
        undoOnAFullQueue();
        undoApartFromOthers();
        retrying();
        telling();
        wrongNumbers();
        CHECK.close();
    }

    private static HoldHouse withCounter() {
        HoldHouse x = new HoldHouse();
        x.make(1, -1, 10);
        return x;
    }

    private static void beginning() {
        HoldHouse x = withCounter();
        for (int t = 1; t <= 12; t++) {
            due("begin " + t, x.begin(t == 1 ? Integer.MIN_VALUE : t), t);
        }
        due("13th at once", x.begin(0), Kinds.FULL);
        due("began", x.count(1), 12);
        due("running", x.count(2), 12);
        due("rank", x.of(1, 3), Integer.MIN_VALUE);
        due("rank", x.of(12, 3), 12);
        due("row of begin", x.row(1, 0), 1);
        due("row of begin 12", x.row(12, 1), 12);
        due("end 5", x.end(5), 1);
        due("room again", x.begin(0), 13);
        due("full again", x.begin(0), Kinds.FULL);
        due("undo 1", x.undo(1), 0);
        due("room again", x.begin(0), 14);
    }

    private static void fourHundred() {
        HoldHouse x = withCounter();
        for (int t = 1; t <= 400; t++) {
            due("begin " + t, x.begin(0), t);
            if (t % 12 == 0) {
                due("crash", x.crash(), 0);
                due("gone with it", x.count(0), 0);
            }
        }
        due("401st", x.begin(0), Kinds.FULL);
        due("crash", x.crash(), 0);
        due("401st, none under way", x.begin(0), Kinds.FULL);
        due("numbers stay", x.count(1), 400);
    }

    private static void levels() {
        HoldHouse x = withCounter();
        x.begin(0);
        due("join at 0", x.join(1), Kinds.STATE);
        due("back at 0", x.back(1), Kinds.STATE);
        for (int level = 1; level <= 4; level++) {
            due("nest", x.nest(1), level);
            due("act", x.act(1, 0, Kinds.ADD, level, 0), 1);
        }
        due("nest too deep", x.nest(1), Kinds.FULL);
        due("level", x.of(1, 2), 4);
        due("end at a level", x.end(1), Kinds.STATE);
        due("back", x.back(1), 1);
        due("level", x.of(1, 2), 3);
        due("value", x.object(0, 2), 16);
        due("join", x.join(1), 2);
        due("back takes those joined", x.back(1), 2);
        due("value", x.object(0, 2), 11);
        due("level", x.of(1, 2), 1);
        due("nest", x.nest(1), 2);
        due("back of nothing", x.back(1), 0);
        due("join", x.join(1), 0);
        due("acts", x.of(1, 5), 1);
        due("end", x.end(1), 1);
        due("kept", x.object(0, 3), 11);
    }

    private static void backFreesOnlyItsLocks() {
        HoldHouse x = new HoldHouse();
        x.make(2, -1, 1);
        x.make(2, -1, 2);
        x.begin(0);
        x.begin(0);
        x.act(1, 0, Kinds.PUT, 5, 0);
        x.nest(1);
        x.act(1, 0, Kinds.PUT, 5, 0);
        x.act(1, 0, Kinds.PUT, 6, 0);
        x.act(1, 1, Kinds.PUT, 7, 0);
        due("locks", x.of(1, 10), 3);
        due("2 waits", x.act(2, 1, Kinds.GET, 0, 0), 0);
        due("back", x.back(1), 3);
        due("locks left", x.of(1, 10), 1);
        due("of the outer level", x.lock(0, 0, 3), 5);
        due("2 went on", x.of(2, 0), Kinds.RUNNING);
        due("with what was there", x.of(2, 7), 2);
        due("value", x.object(0, 2), 5);
    }

    private static void joinLowersLocks() {
        HoldHouse x = new HoldHouse();
        x.make(2, -1, 1);
        x.make(2, -1, 1);
        x.begin(0);
        x.nest(1);
        x.act(1, 0, Kinds.PUT, 5, 0);
        x.nest(1);
        x.act(1, 1, Kinds.PUT, 5, 0);
        due("join", x.join(1), 1);
        due("locks stay", x.count(7), 2);
        x.nest(1);
        due("back of an empty level", x.back(1), 0);
        due("locks of level 1 stay", x.count(7), 2);
        due("join", x.join(1), 0);
        x.nest(1);
        due("back of an empty level", x.back(1), 0);
        due("locks of level 0 stay", x.count(7), 2);
        due("both done", x.save(1), 2);
    }

    private static void points() {
        HoldHouse x = withCounter();
        x.begin(0);
        due("save", x.save(1), 0);
        for (int i = 0; i < 5; i++) {
            x.act(1, 0, Kinds.ADD, 1 << i, 0);
        }
        due("save", x.save(1), 5);
        due("more than it has", x.backTo(1, 6), Kinds.BAD);
        due("below 0", x.backTo(1, -1), Kinds.BAD);
        due("to where it is", x.backTo(1, 5), 0);
        due("back to 3", x.backTo(1, 3), 2);
        due("value", x.object(0, 2), 17);
        due("locks stay", x.of(1, 10), 5);
        due("rows 3, latest first", x.row(7, 4), 16);
        due("rows 3, then", x.row(8, 4), 8);
        due("what it undid", x.row(8, 7), 5);
        x.nest(1);
        due("below its level", x.backTo(1, 2), Kinds.BAD);
        x.act(1, 0, Kinds.ADD, 100, 0);
        due("to its level's begin", x.backTo(1, 3), 1);
        due("level stays", x.of(1, 2), 1);
        due("join", x.join(1), 0);
        due("back to 0", x.backTo(1, 0), 3);
        due("value", x.object(0, 2), 10);
        due("end", x.end(1), 1);
        due("save behind", x.save(1), Kinds.STATE);
        due("backTo behind", x.backTo(1, 0), Kinds.STATE);
        due("backTo behind, bad", x.backTo(1, 1), Kinds.BAD);
        due("kept", x.object(0, 3), 10);
    }

    private static void ending() {
        HoldHouse x = withCounter();
        x.begin(0);
        x.begin(0);
        due("2 ends first", x.end(2), 1);
        due("1 ends then", x.end(1), 2);
        due("again", x.end(1), Kinds.STATE);
        due("end 1 is of", x.ended(1), 2);
        due("end 2 is of", x.ended(2), 1);
        due("number", x.of(2, 11), 1);
        due("state", x.of(2, 0), Kinds.ENDED);
        due("ends", x.count(4), 2);
        x.begin(0);
        due("undo", x.undo(3), 0);
        due("end of one undone", x.end(3), Kinds.STATE);
        x.begin(0);
        x.begin(0);
        x.act(4, 0, Kinds.ADD, 5, 0);
        due("waits", x.act(5, 0, Kinds.GET, 0, 0), 0);
        due("end of one that waits", x.end(5), Kinds.STATE);
        due("nest of one that waits", x.nest(5), Kinds.STATE);
        due("save of one that waits", x.save(5), Kinds.STATE);
        due("backTo of one that waits", x.backTo(5, 0), Kinds.STATE);
        due("join of one that waits", x.join(5), Kinds.STATE);
        due("back of one that waits", x.back(5), Kinds.STATE);
        due("act of one that waits", x.act(5, 0, Kinds.GET, 0, 0), Kinds.STATE);
        due("retry of one that waits", x.retry(5), Kinds.STATE);
        due("end lets it go on", x.end(4), 3);
        due("it has", x.of(5, 7), 15);
        due("locks free", x.of(4, 10), 0);
        due("end of it", x.end(5), 4);
    }

    private static void undoing() {
        HoldHouse x = withCounter();
        x.begin(0);
        x.nest(1);
        x.act(1, 0, Kinds.ADD, 1, 0);
        x.act(1, 0, Kinds.BY, 2, 0);
        due("undo", x.undo(1), 2);
        due("value", x.object(0, 2), 10);
        due("state", x.of(1, 0), Kinds.UNDONE);
        due("why", x.of(1, 1), 3);
        due("level", x.of(1, 2), 0);
        due("acts", x.of(1, 5), 0);
        due("asked stays", x.of(1, 6), 2);
        due("locks", x.count(7), 0);
        due("undone", x.count(5), 1);
        due("row 3", x.row(4, 0), 3);
        due("row 3", x.row(5, 0), 3);
        due("row 5", x.row(6, 0), 5);
        due("row 5 of", x.row(6, 1), 1);
        due("again", x.undo(1), Kinds.STATE);
        x.begin(0);
        x.begin(0);
        x.act(2, 0, Kinds.ADD, 1, 0);
        x.act(3, 0, Kinds.GET, 0, 0);
        due("undo of one that waits", x.undo(3), 0);
        due("no wait", x.waits(0, 0, 0), Kinds.NONE);
        due("waits nowhere", x.of(3, 9), Kinds.NONE);
        due("end", x.end(2), 1);
        due("undo of one that ended", x.undo(2), Kinds.STATE);
    }

    private static void undoOfEachKind() {
        HoldHouse x = new HoldHouse();
        x.make(1, -1, Integer.MIN_VALUE);
        x.make(2, -1, 4);
        x.make(3, -1, 0);
        x.make(4, -1, 0);
        x.make(5, -1, 0);
        x.make(6, -1, 500);
        x.make(6, -1, 999999990);
        x.make(7, -1, 0);
        int[][] before = {{2, Kinds.INSERT, 3, 0}, {3, Kinds.ENTER, 7, 0}, {3, Kinds.ENTER, 8, 0},
            {4, Kinds.STORE, 1, 11}, {4, Kinds.STORE, 2, 0}, {7, Kinds.POINT, 0, 0}};
        x.begin(0);
        for (int[] act : before) {
            due("before", x.act(1, act[0], act[1], act[2], act[3]), 1);
        }
        x.end(1);
        int[][] acts = {{0, Kinds.ADD, -1, 0}, {0, Kinds.BY, -1, 0}, {0, Kinds.BY, 7, 0}, {1, Kinds.PUT, -4, 0},
            {2, Kinds.INSERT, 3, 0}, {2, Kinds.INSERT, 31, 0}, {2, Kinds.DELETE, 3, 0}, {2, Kinds.DELETE, 5, 0},
            {3, Kinds.LEAVE, 0, 0}, {3, Kinds.ENTER, 9, 0}, {3, Kinds.LEAVE, 0, 0}, {3, Kinds.LEAVE, 0, 0},
            {4, Kinds.STORE, 1, 12}, {4, Kinds.STORE, 0, 1}, {4, Kinds.DROP, 1, 0}, {4, Kinds.STORE, 1, 5},
            {4, Kinds.DROP, 2, 0}, {5, Kinds.PAY, 1000, 0}, {5, Kinds.DRAW, 900, 0}, {5, Kinds.ADD, -100, 0},
            {5, Kinds.BY, 3, 0}, {5, Kinds.MOVE, 5, 6}, {7, Kinds.BUMP, 3, 0}, {7, Kinds.POINT, -1, 0},
            {7, Kinds.POINT, 5, 0}, {7, Kinds.BUMP, 4, 0}, {6, Kinds.MOVE, 1000, 5}, {0, Kinds.HOLD, 1, 0}};
        x.begin(0);
        int[] digests = new int[acts.length];
        for (int i = 0; i < acts.length; i++) {
            digests[i] = x.digest();
            due("act " + i, x.act(2, acts[i][0], acts[i][1], acts[i][2], acts[i][3]), 1);
        }
        for (int i = acts.length - 1; i >= 0; i--) {
            due("back to " + i, x.backTo(2, i), 1);
            due("as before act " + i, x.digest(), digests[i]);
        }
        for (int[] act : acts) {
            due("again", x.act(2, act[0], act[1], act[2], act[3]), 1);
        }
        int all = x.digest();
        x.begin(0);
        due("undo", x.undo(2), acts.length);
        due("all as before", x.digest(), digests[0]);
        for (int[] act : acts) {
            due("once more", x.act(3, act[0], act[1], act[2], act[3]), 1);
        }
        x.end(3);
        due("as it was", x.digest(), all);
        for (int o = 0; o < 8; o++) {
            due("kept", x.object(o, 3), x.object(o, 2));
        }
        due("serial", x.serial(), 1);
    }

    private static void undoOnAFullQueue() {
        HoldHouse x = new HoldHouse();
        x.make(4, -1, 0);
        x.begin(0);
        for (int i = 1; i <= 8; i++) {
            x.act(1, 0, Kinds.ENTER, i, 0);
        }
        int full = x.object(0, 2);
        for (int i = 1; i <= 3; i++) {
            due("leave", x.act(1, 0, Kinds.LEAVE, 0, 0), 1);
            due("enter", x.act(1, 0, Kinds.ENTER, 90 + i, 0), 1);
        }
        due("back to the full one", x.backTo(1, 8), 6);
        due("all eight are there", x.object(0, 2), full);
    }

    private static void undoApartFromOthers() {
        HoldHouse x = new HoldHouse();
        x.make(1, -1, Integer.MAX_VALUE);
        x.make(6, -1, 0);
        x.make(3, -1, 0);
        x.make(5, -1, 0);
        x.begin(0);
        x.begin(0);
        for (int t = 1; t <= 2; t++) {
            due("add", x.act(t, 0, Kinds.ADD, t, 0), 1);
            due("pay", x.act(t, 1, Kinds.PAY, 10 * t, 0), 1);
            due("insert", x.act(t, 2, Kinds.INSERT, t, 0), 1);
            due("store", x.act(t, 3, Kinds.STORE, t, t), 1);
        }
        due("undo", x.undo(1), 4);
        due("counter", x.object(0, 2), Integer.MAX_VALUE + 2);
        due("account", x.object(1, 2), 20);
        due("set", x.object(2, 2), 4);
        int d = 17;
        for (int key = 0; key < 8; key++) {
            d = key == 2 ? 31 * d + 3 : 31 * d;
        }
        due("map", x.object(3, 2), d);
        due("kept counter", x.object(0, 3), Integer.MAX_VALUE);
        due("end", x.end(2), 1);
        due("kept counter", x.object(0, 3), Integer.MAX_VALUE + 2);
        due("serial", x.serial(), 1);
    }

    private static void retrying() {
        HoldHouse x = withCounter();
        x.limit(1);
        x.begin(-7);
        due("retry of one that runs", x.retry(1), Kinds.STATE);
        x.act(1, 0, Kinds.ADD, 1, 0);
        due("limit", x.act(1, 0, Kinds.ADD, 1, 0), 2);
        due("retry", x.retry(1), 2);
        due("rank", x.of(2, 3), -7);
        due("tries", x.of(2, 4), 1);
        due("asked", x.of(2, 6), 0);
        due("retry again", x.retry(1), 3);
        due("tries", x.of(3, 4), 1);
        x.act(3, 0, Kinds.ADD, 1, 0);
        x.act(3, 0, Kinds.ADD, 1, 0);
        due("retry of a retry", x.retry(3), 4);
        due("tries", x.of(4, 4), 2);
        x.undo(4);
        due("retry of one asked", x.retry(4), Kinds.STATE);
        x.end(2);
        due("retry of one ended", x.retry(2), Kinds.STATE);
        for (int i = 0; i < 12; i++) {
            due("retry", x.retry(1), 5 + i);
        }
        due("retry, full", x.retry(1), Kinds.FULL);
        due("retry, state ahead of full", x.retry(4), Kinds.STATE);
        due("retry, bad", x.retry(17), Kinds.BAD);
        x.crash();
        due("retry of one cut", x.retry(5), Kinds.STATE);
        due("retry of one undone before", x.retry(1), 17);
    }

    private static void telling() {
        HoldHouse x = withCounter();
        x.begin(3);
        int[] fresh = {1, 0, 0, 3, 0, 0, 0, 0, 0, Kinds.NONE, 0, Kinds.NONE};
        for (int what = 0; what < fresh.length; what++) {
            due("of(1, " + what + ")", x.of(1, what), fresh[what]);
        }
        due("what -1", x.of(1, -1), Kinds.BAD);
        due("what 12", x.of(1, 12), Kinds.BAD);
        x.act(1, 0, Kinds.ADD, 5, 0);
        due("answer", x.of(1, 7), 5);
        due("finding", x.act(1, 0, Kinds.BY, 0, 0), Kinds.ZERO);
        due("answer stays", x.of(1, 7), 5);
        due("finding told", x.of(1, 8), 3);
        due("acts", x.of(1, 5), 1);
        due("asked", x.of(1, 6), 2);
        due("locks", x.of(1, 10), 1);
        x.begin(0);
        due("waits", x.act(2, 0, Kinds.GET, 0, 0), 0);
        due("where", x.of(2, 9), 0);
        due("state", x.of(2, 0), Kinds.WAITING);
        due("finding of none", x.of(2, 8), 0);
        due("asked", x.of(2, 6), 1);
        due("done", x.act(1, 0, Kinds.GET, 0, 0), 1);
        due("finding gone", x.of(1, 8), 0);
        due("answer", x.of(1, 7), 15);
        due("finding", x.act(1, 0, Kinds.PUT, 0, 0), Kinds.KIND);
        due("undo", x.undo(1), 2);
        due("finding stays", x.of(1, 8), 2);
        due("answer stays", x.of(1, 7), 15);
        due("2 went on", x.of(2, 7), 10);
    }

    private static void wrongNumbers() {
        HoldHouse x = withCounter();
        x.begin(0);
        for (int t : new int[] {Integer.MIN_VALUE, -1, 0, 2, 400, Integer.MAX_VALUE}) {
            due("nest", x.nest(t), Kinds.BAD);
            due("join", x.join(t), Kinds.BAD);
            due("back", x.back(t), Kinds.BAD);
            due("save", x.save(t), Kinds.BAD);
            due("backTo", x.backTo(t, 0), Kinds.BAD);
            due("end", x.end(t), Kinds.BAD);
            due("undo", x.undo(t), Kinds.BAD);
            due("retry", x.retry(t), Kinds.BAD);
            due("of", x.of(t, 0), Kinds.BAD);
            due("act", x.act(t, 0, 0, 0, 0), Kinds.BAD);
        }
        due("rows", x.count(11), 2);
    }
}
