/** Promises 13 act and 30 trace: each KIND on each SORT, its FINDINGS, its BODIES, its wrong inputs. */
public final class ActsTest {
    private static final Check CHECK = new Check("ActsTest");

    private static void due(String call, long got, long want) {
        CHECK.due(call, got, want);
    }

    /** One OBJECT of each SORT below FOLDER 0, by the number of its SORT; ACCOUNT 8 besides; one begun. */
    private static HoldHouse house() {
        HoldHouse x = new HoldHouse();
        x.make(0, -1, 0);
        for (int sort = 1; sort < 8; sort++) {
            x.make(sort, 0, 20);
        }
        x.make(6, -1, 1000000000);
        x.begin(0);
        return x;
    }

    private static void done(HoldHouse x, int[] act, int answer, int... bodies) {
        String call = "act(" + act[0] + ", " + act[1] + ", " + act[2] + ", " + act[3] + ")";
        int rows = x.count(11);
        due(call, x.act(1, act[0], act[1], act[2], act[3]), 1);
        due(call + " answer", x.of(1, 7), answer);
        due(call + " finding", x.of(1, 8), 0);
        due(call + " row", x.row(rows, 6), answer);
        traced(x, call, bodies);
    }

    private static void found(HoldHouse x, int[] act, int how, int... bodies) {
        String call = "act(" + act[0] + ", " + act[1] + ", " + act[2] + ", " + act[3] + ")";
        int digest = x.digest();
        int rows = x.count(11);
        int answer = x.of(1, 7);
        int locks = x.of(1, 10);
        due(call, x.act(1, act[0], act[1], act[2], act[3]), how);
        due(call + " finding", x.of(1, 8), -10 - how);
        due(call + " leaves all", x.digest(), digest);
        due(call + " no row", x.count(11), rows);
        due(call + " answer stays", x.of(1, 7), answer);
        due(call + " locks are free", x.of(1, 10), locks);
        due(call + " it runs", x.of(1, 0), Kinds.RUNNING);
        traced(x, call, bodies);
    }

    private static void traced(HoldHouse x, String call, int... bodies) {
        for (int i = 0; i < bodies.length; i++) {
            due(call + " trace(" + i + ")", x.trace(i), bodies[i]);
        }
        due(call + " trace's end", x.trace(bodies.length), Kinds.NONE);
        due(call + " trace(-1)", x.trace(-1), Kinds.NONE);
    }

    private static int[] a(int... act) {
        return act;
    }

    public static void main(String[] args) {
        values();
        accounts();
        sets();
        queues();
        maps();
        slots();
        moves();
        sums();
        kindsThatSortsHaveNot();
        wrongInputs();
        limitUndoes();
        sevenHundred();
        goingOnIsTraced();
        CHECK.close();
    }

    private static void values() {
        HoldHouse x = house();
        due("nothing is traced yet", x.trace(0), Kinds.NONE);
        done(x, a(1, Kinds.GET, 9, 9), 20, 1);
        done(x, a(2, Kinds.GET, 0, 0), 20, 1);
        done(x, a(6, Kinds.GET, 0, 0), 20, 1);
        done(x, a(7, Kinds.GET, 0, 0), -1, 2);
        done(x, a(1, Kinds.ADD, Integer.MAX_VALUE, 0), Integer.MAX_VALUE, 3);
        done(x, a(1, Kinds.GET, 0, 0), Integer.MIN_VALUE + 19, 1);
        done(x, a(1, Kinds.ADD, -19, 0), -19, 3);
        done(x, a(1, Kinds.BY, -1, 0), Integer.MIN_VALUE, 5);
        due("least by -1", x.object(1, 2), Integer.MIN_VALUE);
        done(x, a(1, Kinds.BY, 1000000000, 0), -2, 5);
        done(x, a(1, Kinds.ADD, -5, 0), -5, 3);
        done(x, a(1, Kinds.BY, 2, 0), -3, 5);
        due("cut, not down", x.object(1, 2), -3);
        found(x, a(1, Kinds.BY, 0, 0), Kinds.ZERO, 5);
        done(x, a(2, Kinds.PUT, Integer.MIN_VALUE, 0), 20, 6);
        done(x, a(2, Kinds.PUT, 3, 0), Integer.MIN_VALUE, 6);
        due("register", x.object(2, 2), 3);
        done(x, a(2, Kinds.HOLD, 1, 0), 1);
        done(x, a(2, Kinds.HOLD, 0, 0), 0);
        done(x, a(0, Kinds.HOLD, 1, 7), 1);
    }

    private static void accounts() {
        HoldHouse x = house();
        done(x, a(6, Kinds.ADD, 5, 0), 5, 4, 3);
        found(x, a(6, Kinds.ADD, -26, 0), Kinds.SHORT, 4);
        found(x, a(6, Kinds.ADD, Integer.MIN_VALUE, 0), Kinds.SHORT, 4);
        found(x, a(6, Kinds.ADD, Integer.MAX_VALUE, 0), Kinds.FULL_THERE, 4);
        done(x, a(6, Kinds.ADD, -25, 0), -25, 4, 3);
        done(x, a(6, Kinds.ADD, 1000000000, 0), 1000000000, 4, 3);
        found(x, a(6, Kinds.ADD, 1, 0), Kinds.FULL_THERE, 4);
        found(x, a(6, Kinds.PAY, 1, 0), Kinds.FULL_THERE, 19, 4);
        done(x, a(6, Kinds.PAY, 0, 0), 0, 19, 4, 3);
        done(x, a(6, Kinds.BY, 1000000, 0), 1000, 25, 5);
        found(x, a(6, Kinds.BY, -1, 0), Kinds.SHORT, 25);
        found(x, a(6, Kinds.BY, 0, 0), Kinds.ZERO, 25, 5);
        done(x, a(6, Kinds.DRAW, 999, 0), 999, 20, 4, 3);
        found(x, a(6, Kinds.DRAW, 2, 0), Kinds.SHORT, 20, 4);
        done(x, a(6, Kinds.DRAW, 1, 0), 1, 20, 4, 3);
        done(x, a(6, Kinds.DRAW, 0, 0), 0, 20, 4, 3);
        due("empty", x.object(6, 2), 0);
        done(x, a(6, Kinds.PAY, 1000, 0), 1000, 19, 4, 3);
        due("paid", x.object(6, 2), 1000);
    }

    private static void sets() {
        HoldHouse x = house();
        done(x, a(3, Kinds.HAS, 31, 0), 0, 9);
        done(x, a(3, Kinds.INSERT, 31, 0), 1, 7);
        done(x, a(3, Kinds.INSERT, 31, 0), 0, 7);
        done(x, a(3, Kinds.INSERT, 0, 0), 1, 7);
        done(x, a(3, Kinds.HAS, 31, 0), 1, 9);
        done(x, a(3, Kinds.SIZE, 0, 0), 2, 11);
        done(x, a(3, Kinds.DELETE, 31, 0), 1, 8);
        done(x, a(3, Kinds.DELETE, 31, 0), 0, 8);
        done(x, a(3, Kinds.SIZE, -1, -1), 1, 11);
    }

    private static void queues() {
        HoldHouse x = house();
        found(x, a(4, Kinds.LEAVE, 0, 0), Kinds.EMPTY, 13);
        found(x, a(4, Kinds.AT, 0, 0), Kinds.INDEX, 14);
        done(x, a(4, Kinds.FIRST, 0, 0), 0, 15);
        found(x, a(4, Kinds.FIRST, 1, 0), Kinds.INDEX, 15);
        for (int i = 0; i < 8; i++) {
            done(x, a(4, Kinds.ENTER, i == 7 ? Integer.MAX_VALUE : i * i, 0), i, 12);
        }
        found(x, a(4, Kinds.ENTER, 8, 0), Kinds.FULL_THERE, 12);
        done(x, a(4, Kinds.SIZE, 0, 0), 8, 10);
        done(x, a(4, Kinds.AT, 6, 0), 36, 14);
        done(x, a(4, Kinds.AT, 7, 0), Integer.MAX_VALUE, 14);
        found(x, a(4, Kinds.AT, 8, 0), Kinds.INDEX, 14);
        found(x, a(4, Kinds.AT, -1, 0), Kinds.INDEX, 14);
        done(x, a(4, Kinds.FIRST, 4, 0), 14, 15);
        done(x, a(4, Kinds.FIRST, 8, 0), Integer.MIN_VALUE + 90, 15);
        found(x, a(4, Kinds.FIRST, 9, 0), Kinds.INDEX, 15);
        found(x, a(4, Kinds.FIRST, 64, 0), Kinds.INDEX, 15);
        found(x, a(4, Kinds.FIRST, -1, 0), Kinds.SIZE_WRONG, 15);
        found(x, a(4, Kinds.FIRST, Integer.MIN_VALUE, 0), Kinds.SIZE_WRONG, 15);
        for (int i = 0; i < 7; i++) {
            done(x, a(4, Kinds.LEAVE, 0, 0), i * i, 13);
        }
        done(x, a(4, Kinds.ENTER, -3, 0), 1, 12);
        done(x, a(4, Kinds.AT, 0, 0), Integer.MAX_VALUE, 14);
        due("queue", x.object(4, 2), (17 * 31 + Integer.MAX_VALUE) * 31 - 3);
    }

    private static void maps() {
        HoldHouse x = house();
        found(x, a(5, Kinds.LOOK, 0, 0), Kinds.NULL, 18);
        found(x, a(5, Kinds.DROP, 7, 0), Kinds.NULL, 17);
        done(x, a(5, Kinds.STORE, 7, -6), 0, 16);
        done(x, a(5, Kinds.STORE, 7, 0), -6, 16);
        done(x, a(5, Kinds.LOOK, 7, 0), 0, 18);
        done(x, a(5, Kinds.STORE, 0, 5), 0, 16);
        done(x, a(5, Kinds.SIZE, 0, 0), 2, 10);
        done(x, a(5, Kinds.DROP, 0, 0), 5, 17);
        found(x, a(5, Kinds.LOOK, 0, 0), Kinds.NULL, 18);
        done(x, a(5, Kinds.STORE, 0, 9), 0, 16);
        done(x, a(5, Kinds.LOOK, 0, 0), 9, 18);
    }

    private static void slots() {
        HoldHouse x = house();
        found(x, a(7, Kinds.BUMP, 1, 0), Kinds.NULL, 22);
        done(x, a(7, Kinds.POINT, 1, 0), -1, 21);
        done(x, a(7, Kinds.BUMP, 4, 33), 4, 22, 3);
        due("row's b is the object", x.row(x.count(11) - 1, 5), 1);
        due("counter", x.object(1, 2), 24);
        done(x, a(7, Kinds.POINT, 6, 0), 1, 21);
        done(x, a(7, Kinds.BUMP, -20, 0), -20, 22, 4, 3);
        found(x, a(7, Kinds.BUMP, -1, 0), Kinds.SHORT, 22, 4);
        found(x, a(7, Kinds.BUMP, 1000000001, 0), Kinds.FULL_THERE, 22, 4);
        done(x, a(7, Kinds.POINT, 2, 0), 6, 21);
        found(x, a(7, Kinds.BUMP, 1, 0), Kinds.KIND, 22);
        done(x, a(7, Kinds.POINT, 7, 0), 2, 21);
        found(x, a(7, Kinds.BUMP, 1, 0), Kinds.KIND, 22);
        done(x, a(7, Kinds.POINT, 0, 0), 7, 21);
        found(x, a(7, Kinds.BUMP, 1, 0), Kinds.KIND, 22);
        done(x, a(7, Kinds.GET, 0, 0), 0, 2);
        done(x, a(7, Kinds.POINT, -1, 0), 0, 21);
        due("end", x.end(1), 1);
        due("serial", x.serial(), 1);
    }

    private static void moves() {
        HoldHouse x = house();
        found(x, a(6, Kinds.MOVE, 21, 8), Kinds.SHORT, 23, 20, 4);
        found(x, a(6, Kinds.MOVE, 20, 8), Kinds.FULL_THERE, 23, 20, 4, 3, 19, 4);
        done(x, a(8, Kinds.MOVE, 1000, 6), 1000, 23, 20, 4, 3, 19, 4, 3);
        due("from", x.object(8, 2), 999999000);
        due("to", x.object(6, 2), 1020);
        done(x, a(6, Kinds.MOVE, 1, 8), 1, 23, 20, 4, 3, 19, 4, 3);
        done(x, a(6, Kinds.MOVE, 0, 8), 0, 23, 20, 4, 3, 19, 4, 3);
        found(x, a(6, Kinds.MOVE, 1, 1), Kinds.KIND, 23, 20, 4, 3);
        found(x, a(6, Kinds.MOVE, 1, 0), Kinds.KIND, 23, 20, 4, 3);
        found(x, a(1, Kinds.MOVE, 1, 6), Kinds.KIND);
        done(x, a(6, Kinds.DRAW, 1000, 0), 1000, 20, 4, 3);
        found(x, a(6, Kinds.MOVE, 1000, 1), Kinds.SHORT, 23, 20, 4);
    }

    private static void sums() {
        HoldHouse x = house();
        done(x, a(0, Kinds.SUM, 0, 0), 60, 24, 1, 1, 1);
        x.undo(1);
        x.make(0, 0, 0);
        x.make(0, 9, 0);
        x.make(0, -1, 0);
        x.make(2, 10, Integer.MAX_VALUE);
        x.make(6, 9, 7);
        x.make(1, 11, 1);
        x.begin(0);
        due("sum", x.act(2, 0, Kinds.SUM, 0, 0), 1);
        due("at any depth", x.of(2, 7), Integer.MAX_VALUE + 67);
        due("sum", x.act(2, 11, Kinds.SUM, 5, 5), 1);
        due("of another", x.of(2, 7), 1);
        due("sum", x.act(2, 10, Kinds.SUM, 0, 0), 1);
        due("of the inner", x.of(2, 7), Integer.MAX_VALUE);
        x.undo(2);
        for (int i = 0; i < 20; i++) {
            x.make(1, 11, i);
        }
        x.begin(0);
        due("sum", x.act(3, 11, Kinds.SUM, 0, 0), 1);
        due("of many", x.of(3, 7), 191);
        traced(x, "sum of many", 24, 1, 1, 1, 1, 1, 1, 1, 1, 1, 1, 1, 1, 1, 1, 1);
        x.undo(3);
        HoldHouse y = new HoldHouse();
        y.make(0, -1, 0);
        y.begin(0);
        due("sum of nothing", y.act(1, 0, Kinds.SUM, 0, 0), 1);
        due("is", y.of(1, 7), 0);
        traced(y, "sum of nothing", 24);
    }

    private static void kindsThatSortsHaveNot() {
        String[] has = {"1267", "16", "16", "2", "3", "3", "3", "345", "4", "4", "4", "4", "5", "5", "5", "6", "6",
            "7", "7", "6", "0", "01234567"};
        for (int kind = 0; kind < 22; kind++) {
            HoldHouse x = house();
            for (int sort = 0; sort < 8; sort++) {
                if (has[kind].indexOf('0' + sort) < 0) {
                    found(x, a(sort, kind, 0, 8), Kinds.KIND);
                }
            }
            due("all as before", x.save(1), 0);
        }
    }

    private static void wrongInputs() {
        HoldHouse x = house();
        int[][] bad = {{-1, 0, 0, 0}, {9, 0, 0, 0}, {1, -1, 0, 0}, {1, 22, 0, 0},
            {3, 4, -1, 0}, {3, 4, 32, 0}, {3, 5, -1, 0}, {3, 5, 32, 0}, {3, 6, -1, 0}, {3, 6, 32, 0}, {1, 6, 32, 0},
            {5, 12, -1, 0}, {5, 12, 8, 0}, {5, 13, -1, 0}, {5, 13, 8, 0}, {5, 14, -1, 0}, {5, 14, 8, 0},
            {6, 15, -1, 0}, {6, 15, 1001, 0}, {6, 16, -1, 0}, {6, 16, 1001, 0}, {6, 19, -1, 8}, {6, 19, 1001, 8},
            {6, 19, 1, 6}, {6, 19, 1, 9}, {6, 19, 1, -1}, {1, 21, -1, 0}, {1, 21, 2, 0}, {4, 11, 65, 0},
            {4, 11, Integer.MAX_VALUE, 0}, {7, 17, -2, 0}, {7, 17, 9, 0}};
        for (int[] act : bad) {
            String call = "act(" + act[0] + ", " + act[1] + ", " + act[2] + ", " + act[3] + ")";
            due(call, x.act(1, act[0], act[1], act[2], act[3]), Kinds.BAD);
        }
        due("none was asked", x.count(8), 0);
        due("no lock was asked for", x.count(13), 0);
        x.undo(1);
        due("bad ahead of state", x.act(1, 9, 0, 0, 0), Kinds.BAD);
        due("state", x.act(1, 1, 0, 0, 0), Kinds.STATE);
    }

    private static void limitUndoes() {
        HoldHouse x = house();
        x.limit(2);
        x.begin(0);
        due("add", x.act(1, 1, Kinds.ADD, 1, 0), 1);
        due("a finding counts as asked", x.act(1, 1, Kinds.BY, 0, 0), Kinds.ZERO);
        due("2 waits", x.act(2, 1, Kinds.GET, 0, 0), 0);
        due("bad ahead of the limit", x.act(1, 1, 99, 0, 0), Kinds.BAD);
        due("limit", x.act(1, 1, Kinds.ADD, 1, 0), 2);
        due("why", x.of(1, 1), 2);
        due("asked", x.of(1, 6), 2);
        due("asked in all", x.count(8), 3);
        due("2 went on", x.of(2, 7), 20);
        due("locks of 1", x.of(1, 10), 0);
        x.limit(1);
        due("the limit comes down", x.act(2, 1, Kinds.GET, 0, 0), 2);
    }

    private static void sevenHundred() {
        // 700 are never reached within the 512 calls that are promised: this tells what the class does there, that
        // the document's number stands in it.
        HoldHouse x = house();
        for (int t = 2; t <= 5; t++) {
            x.begin(0);
        }
        for (int i = 0; i < 700; i++) {
            due("asked " + i, x.act(1 + i % 5, 1, Kinds.ADD, 1, 0), 1);
        }
        due("full", x.act(1, 1, Kinds.ADD, 1, 0), Kinds.FULL);
        x.limit(1);
        due("full ahead of the limit", x.act(1, 1, Kinds.ADD, 1, 0), Kinds.FULL);
        due("bad ahead of full", x.act(1, 1, -1, 1, 0), Kinds.BAD);
        due("none more was asked", x.count(8), 700);
        due("it was not undone", x.of(1, 0), Kinds.RUNNING);
        x.undo(2);
        due("state ahead of full", x.act(2, 1, Kinds.ADD, 1, 0), Kinds.STATE);
    }

    private static void goingOnIsTraced() {
        HoldHouse x = house();
        x.begin(0);
        due("pay", x.act(1, 6, Kinds.PAY, 1, 0), 1);
        due("get waits", x.act(2, 6, Kinds.GET, 0, 0), 0);
        traced(x, "one that waits is not traced", 19, 4, 3);
        due("end", x.end(1), 1);
        traced(x, "one that went on is", 1);
        due("crash", x.crash(), 1);
        traced(x, "trace stays over a cut", 1);
    }
}
