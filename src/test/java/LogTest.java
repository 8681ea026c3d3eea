/** Promises 20 group, 21 rest, 22 cut, 23 crash, 24 row, 25 ended, 26 version, 29 serial, 31 count. */
public final class LogTest {
    private static final Check CHECK = new Check("LogTest");

    private static void due(String call, long got, long want) {
        CHECK.due(call, got, want);
    }

    public static void main(String[] args) {
        groups();
        forcing();
        rests();
        rows();
        cutBetweenEnds();
        cutUnderWay();
        cutObjects();
        crashes();
        numbersGoOn();
        versions();
        eachOfTheLatestSixteen();
        versionsOfWrites();
        serials();
        counts();
        cutsStayCounted();
        CHECK.close();
    }

    private static void rowIs(HoldHouse x, int i, int... want) {
        for (int what = 0; what < 8; what++) {
            due("row(" + i + ", " + what + ")", x.row(i, what), want[what]);
        }
    }

    private static int addAndEnd(HoldHouse x, int o, int a) {
        int t = x.begin(0);
        x.act(t, o, Kinds.ADD, a, 0);
        return x.end(t);
    }

    private static void groups() {
        HoldHouse x = new HoldHouse();
        due("group 0", x.group(0), Kinds.BAD);
        due("group 21", x.group(21), Kinds.BAD);
        due("group 20", x.group(20), 1);
        due("group 1", x.group(1), 20);
        due("group 3", x.group(3), 1);
        due("count", x.count(17), 3);
    }

    private static void forcing() {
        HoldHouse x = new HoldHouse();
        due("nothing forced", x.count(12), 0);
        x.make(1, -1, 0);
        due("make forces nothing", x.count(12), 0);
        x.group(3);
        addAndEnd(x, 0, 1);
        addAndEnd(x, 0, 1);
        due("two ends do not", x.count(12), 0);
        addAndEnd(x, 0, 1);
        due("three do", x.count(12), 10);
        addAndEnd(x, 0, 1);
        due("one more does not", x.count(12), 10);
        x.group(2);
        due("group alone does not", x.count(12), 10);
        addAndEnd(x, 0, 1);
        due("the second one does", x.count(12), 16);
        addAndEnd(x, 0, 1);
        due("rest", x.rest(), 20);
        due("forced", x.count(12), 20);
        addAndEnd(x, 0, 1);
        due("since rest one", x.count(12), 20);
        due("cut", x.cut(22), 6);
        due("forced", x.count(12), 22);
        addAndEnd(x, 0, 1);
        due("since the cut one", x.count(12), 22);
        addAndEnd(x, 0, 1);
        due("two", x.count(12), 28);
        x.group(5);
        addAndEnd(x, 0, 1);
        addAndEnd(x, 0, 1);
        addAndEnd(x, 0, 1);
        x.group(2);
        due("not yet", x.count(12), 28);
        addAndEnd(x, 0, 1);
        due("more than n", x.count(12), 40);
    }

    private static void rests() {
        HoldHouse x = new HoldHouse();
        x.begin(0);
        due("rest under way", x.rest(), Kinds.STATE);
        x.end(1);
        due("rest", x.rest(), 3);
        rowIs(x, 2, 6, 0, -1, -1, 0, 0, 0, -1);
        for (int i = 2; i <= 99; i++) {
            due("rest " + i, x.rest(), i + 2);
        }
        due("cut", x.cut(50), 1);
        due("rest 100", x.rest(), 51);
        due("rest 101", x.rest(), Kinds.FULL);
        due("rows", x.count(11), 51);
        x.begin(0);
        due("state ahead of full", x.rest(), Kinds.STATE);
    }

    private static void rows() {
        HoldHouse x = new HoldHouse();
        x.make(0, -1, 77);
        x.make(1, 0, -5);
        x.make(7, 0, 9);
        x.make(6, -1, 100);
        x.make(6, -1, 0);
        rowIs(x, 0, 0, 0, 0, 0, 0, -1, 0, -1);
        rowIs(x, 1, 0, 0, 1, 1, -5, 0, 0, -1);
        rowIs(x, 2, 0, 0, 2, 7, 0, 0, 0, -1);
        rowIs(x, 3, 0, 0, 3, 6, 100, -1, 0, -1);
        x.begin(9);
        rowIs(x, 5, 1, 1, -1, -1, 0, 0, 0, -1);
        x.act(1, 2, Kinds.POINT, 1, 44);
        rowIs(x, 6, 2, 1, 2, 17, 1, 44, -1, -1);
        x.act(1, 2, Kinds.BUMP, 6, 45);
        rowIs(x, 7, 2, 1, 2, 18, 6, 1, 6, -1);
        x.act(1, 3, Kinds.MOVE, 10, 4);
        rowIs(x, 8, 2, 1, 3, 19, 10, 4, 10, -1);
        x.act(1, 0, Kinds.SUM, 3, 4);
        rowIs(x, 9, 2, 1, 0, 20, 3, 4, 1, -1);
        x.act(1, 0, Kinds.HOLD, 1, 2);
        rowIs(x, 10, 2, 1, 0, 21, 1, 2, 1, -1);
        x.act(1, 0, Kinds.GET, 1, 2);
        due("a finding has no row", x.count(11), 11);
        due("back to 1", x.backTo(1, 1), 4);
        rowIs(x, 11, 3, 1, 0, 21, 1, 2, 1, 10);
        rowIs(x, 12, 3, 1, 0, 20, 3, 4, 1, 9);
        rowIs(x, 13, 3, 1, 3, 19, 10, 4, 10, 8);
        rowIs(x, 14, 3, 1, 2, 18, 6, 1, 6, 7);
        x.end(1);
        rowIs(x, 15, 4, 1, -1, -1, 0, 0, 1, -1);
        x.begin(0);
        x.undo(2);
        rowIs(x, 17, 5, 2, -1, -1, 0, 0, 0, -1);
        due("row 18", x.row(18, 0), Kinds.NONE);
        due("row -1", x.row(-1, 0), Kinds.NONE);
        due("what -1", x.row(0, -1), Kinds.BAD);
        due("what 8", x.row(0, 8), Kinds.BAD);
        due("bad ahead of none", x.row(99, 8), Kinds.BAD);
        due("serial", x.serial(), 1);
    }

    private static void cutBetweenEnds() {
        HoldHouse x = new HoldHouse();
        x.make(1, -1, 5);
        x.make(2, -1, 7);
        addAndEnd(x, 0, 1);
        x.begin(4);
        x.act(2, 0, Kinds.ADD, 2, 0);
        x.act(2, 1, Kinds.PUT, 8, 0);
        x.end(2);
        due("rows", x.count(11), 9);
        due("cut too far", x.cut(10), Kinds.BAD);
        due("cut below", x.cut(-1), Kinds.BAD);
        due("cut at all", x.cut(9), 2);
        due("all stays", x.object(0, 2), 8);
        due("the end stays", x.of(2, 11), 2);
        due("cut the last end", x.cut(8), 1);
        due("counter", x.object(0, 2), 6);
        due("counter kept", x.object(0, 3), 6);
        due("register", x.object(1, 2), 7);
        due("state", x.of(2, 0), Kinds.UNDONE);
        due("why", x.of(2, 1), 4);
        due("acts", x.of(2, 5), 0);
        due("end", x.of(2, 11), Kinds.NONE);
        due("rank stays", x.of(2, 3), 4);
        due("asked stays", x.of(2, 6), 2);
        due("answer stays", x.of(2, 7), 7);
        due("ended", x.ended(2), Kinds.NONE);
        due("ended", x.ended(1), 1);
        due("ended 0", x.ended(0), Kinds.NONE);
        due("ended -1", x.ended(-1), Kinds.NONE);
        due("undone", x.count(5), 1);
        due("ends", x.count(4), 1);
        due("rows", x.count(11), 8);
        due("forced", x.count(12), 8);
        due("serial", x.serial(), 1);
        due("retry of one cut", x.retry(2), Kinds.STATE);
        due("cut in an act", x.cut(3), 0);
        due("counter", x.object(0, 2), 5);
        due("1 is undone", x.of(1, 1), 4);
        due("undone", x.count(5), 2);
    }

    private static void cutUnderWay() {
        HoldHouse x = new HoldHouse();
        x.make(1, -1, 5);
        x.begin(0);
        x.begin(0);
        x.begin(0);
        x.nest(1);
        x.act(1, 0, Kinds.ADD, 1, 0);
        due("waits", x.act(2, 0, Kinds.GET, 0, 0), 0);
        x.undo(3);
        due("cut", x.cut(x.count(11)), 0);
        due("value", x.object(0, 2), 5);
        due("locks", x.count(7), 0);
        due("waits", x.waits(0, 0, 0), Kinds.NONE);
        due("running", x.count(2), 0);
        due("waiting", x.count(3), 0);
        due("level", x.of(1, 2), 0);
        due("why", x.of(1, 1), 4);
        due("why", x.of(2, 1), 4);
        due("where", x.of(2, 9), Kinds.NONE);
        due("why of one undone before", x.of(3, 1), 3);
        due("no row came", x.count(11), 6);
        due("undone", x.count(5), 3);
        due("make goes", x.make(2, -1, 0), 1);
        due("act", x.act(1, 0, Kinds.GET, 0, 0), Kinds.STATE);
        due("next number", x.begin(0), 4);
    }

    private static void cutObjects() {
        HoldHouse x = new HoldHouse();
        x.make(0, -1, 0);
        x.make(1, 0, 3);
        addAndEnd(x, 1, 4);
        x.make(7, 0, 0);
        x.begin(0);
        x.act(2, 2, Kinds.POINT, 1, 0);
        x.end(2);
        x.make(3, -1, 0);
        due("cut the set", x.cut(9), 2);
        due("objects", x.count(0), 3);
        due("the set", x.object(3, 0), Kinds.BAD);
        due("its locks", x.lock(3, 0, 0), Kinds.BAD);
        due("its versions", x.version(3, 0), Kinds.BAD);
        due("slot", x.object(2, 2), 1);
        due("cut the slot", x.cut(5), 1);
        due("objects", x.count(0), 2);
        due("another there", x.make(5, 0, 0), 2);
        due("its sort", x.object(2, 0), 5);
        due("its version", x.version(2, 9), x.object(2, 2));
        due("cut all", x.cut(0), 0);
        due("objects", x.count(0), 0);
        due("digest", x.digest(), 17);
        due("serial", x.serial(), 1);
        due("trans", x.count(1), 2);
        due("begin", x.begin(0), 3);
    }

    private static void crashes() {
        HoldHouse x = new HoldHouse();
        x.make(1, -1, 0);
        x.group(2);
        addAndEnd(x, 0, 1);
        due("crash, nothing forced", x.crash(), 0);
        due("no object", x.count(0), 0);
        due("no row", x.count(11), 0);
        due("group stays", x.count(17), 2);
        x.make(1, -1, 10);
        addAndEnd(x, 0, 1);
        addAndEnd(x, 0, 2);
        addAndEnd(x, 0, 4);
        due("forced", x.count(12), 7);
        due("crash", x.crash(), 2);
        due("value", x.object(0, 2), 13);
        due("the third is undone", x.of(4, 1), 4);
        due("crash again", x.crash(), 2);
        due("undone", x.count(5), 2);
    }

    private static void numbersGoOn() {
        HoldHouse x = new HoldHouse();
        x.make(1, -1, 0);
        addAndEnd(x, 0, 1);
        addAndEnd(x, 0, 2);
        due("cut", x.cut(4), 1);
        due("next end", addAndEnd(x, 0, 8), 2);
        due("its transaction", x.ended(2), 3);
        due("version 2", x.version(0, 2), 9);
        due("version 1", x.version(0, 1), 1);
        due("serial", x.serial(), 1);
    }

    private static void versions() {
        HoldHouse x = new HoldHouse();
        x.make(1, -1, 100);
        x.make(1, -1, 7);
        for (int e = 1; e <= 15; e++) {
            due("end", addAndEnd(x, 0, 1), e);
        }
        due("0 is one of 16", x.version(0, 0), 100);
        due("end 16 on the other", addAndEnd(x, 1, 1), 16);
        due("still 0", x.version(0, 0), 100);
        due("end 17", addAndEnd(x, 0, 1), 17);
        due("0 is old", x.version(0, 0), Kinds.OLD);
        due("1 is told", x.version(0, 1), 101);
        due("15", x.version(0, 15), 115);
        due("16, by 15", x.version(0, 16), 115);
        due("17", x.version(0, 17), 116);
        due("beyond", x.version(0, Integer.MAX_VALUE), 116);
        for (int e = 1; e <= 15; e++) {
            due("version " + e, x.version(0, e), 100 + e);
        }
        due("the other", x.version(1, 15), 7);
        due("the other", x.version(1, 16), 8);
        due("e below 0", x.version(0, -1), Kinds.BAD);
        due("o", x.version(2, 0), Kinds.BAD);
        due("o", x.version(-1, 0), Kinds.BAD);
        x.begin(0);
        x.act(18, 0, Kinds.ADD, 50, 0);
        due("not yet ended", x.version(0, 99), 116);
        due("cut the last", x.cut(x.count(11) - 3), 16);
        due("0 is told again", x.version(0, 0), 100);
        due("late one as made, for any e", x.make(1, -1, 55), 2);
        due("at 3", x.version(2, 3), 55);
    }

    private static void eachOfTheLatestSixteen() {
        for (int e = 1; e <= 40; e++) {
            HoldHouse x = new HoldHouse();
            x.make(1, -1, 100);
            for (int n = 1; n <= e; n++) {
                addAndEnd(x, 0, 1);
            }
            for (int back = 0; back <= e; back++) {
                int due = e - back < e - 15 ? Kinds.OLD : 100 + e - back;
                due("version(0, " + (e - back) + ") behind end " + e, x.version(0, e - back), due);
            }
        }
    }

    private static void versionsOfWrites() {
        HoldHouse x = new HoldHouse();
        x.make(6, -1, 50);
        x.make(6, -1, 50);
        x.make(7, -1, 0);
        x.make(3, -1, 0);
        x.begin(0);
        x.act(1, 2, Kinds.POINT, 0, 0);
        x.end(1);
        for (int e = 2; e <= 17; e++) {
            x.begin(0);
            x.act(e, 0, Kinds.MOVE, 1, 1);
            x.act(e, 2, Kinds.BUMP, 1, 0);
            x.act(e, 3, Kinds.DELETE, 3, 0);
            due("end", x.end(e), e);
        }
        due("both of a move", x.version(0, 1), Kinds.OLD);
        due("both of a move", x.version(1, 1), Kinds.OLD);
        due("both of a move", x.version(1, 2), 51);
        due("the slot has few", x.version(2, 0), -1);
        due("the slot has few", x.version(2, 99), 0);
        due("nothing another one, a version still", x.version(3, 0), Kinds.OLD);
        due("nothing another one, a version still", x.version(3, 2), 0);
        HoldHouse y = new HoldHouse();
        y.make(1, -1, 4);
        for (int e = 1; e <= 20; e++) {
            y.begin(0);
            y.act(e, 0, Kinds.GET, 0, 0);
            y.act(e, 0, Kinds.HOLD, 1, 0);
            y.end(e);
        }
        due("neither get nor hold", y.version(0, 0), 4);
        HoldHouse z = new HoldHouse();
        z.make(1, -1, 4);
        for (int e = 1; e <= 20; e++) {
            z.begin(0);
            z.act(e, 0, Kinds.ADD, 1, 0);
            z.backTo(e, 0);
            z.end(e);
        }
        due("not what was undone", z.version(0, 0), 4);
    }

    private static void serials() {
        HoldHouse x = new HoldHouse();
        x.make(1, -1, 5);
        x.make(0, -1, 0);
        x.begin(0);
        x.begin(0);
        x.begin(0);
        x.act(1, 0, Kinds.ADD, 5, 0);
        x.act(2, 0, Kinds.ADD, 7, 0);
        x.act(3, 0, Kinds.ADD, 11, 0);
        x.nest(2);
        x.act(2, 0, Kinds.ADD, 13, 0);
        x.back(2);
        x.end(2);
        due("serial", x.serial(), 1);
        due("kept", x.object(0, 3), 12);
        due("now", x.object(0, 2), 28);
        x.undo(1);
        due("serial", x.serial(), 1);
        x.end(3);
        due("serial", x.serial(), 1);
        due("kept", x.object(0, 3), 23);
        x.make(2, 1, 9);
        x.begin(0);
        x.act(4, 1, Kinds.SUM, 0, 0);
        x.end(4);
        due("serial", x.serial(), 1);
        due("what is there stays", x.object(0, 2), 23);
    }

    private static void counts() {
        HoldHouse x = new HoldHouse();
        x.make(1, -1, 5);
        x.make(2, -1, 5);
        x.group(4);
        x.rule(1);
        x.limit(9);
        x.begin(0);
        x.begin(0);
        x.begin(0);
        x.act(1, 0, Kinds.ADD, 1, 0);
        x.act(2, 0, Kinds.GET, 1, 0);
        x.act(1, 1, Kinds.BUMP, 1, 0);
        x.backTo(1, 0);
        x.end(3);
        int[] want = {2, 3, 1, 1, 1, 0, 0, 1, 3, 1, 1, 8, 0, 3, 3, 9, 1, 4};
        for (int what = 0; what < want.length; what++) {
            due("count(" + what + ")", x.count(what), want[what]);
        }
        due("count(-1)", x.count(-1), Kinds.BAD);
        due("count(18)", x.count(18), Kinds.BAD);
    }

    private static void cutsStayCounted() {
        HoldHouse x = new HoldHouse();
        x.make(1, -1, 5);
        x.make(2, -1, 5);
        x.begin(0);
        x.begin(0);
        x.act(1, 0, Kinds.ADD, 1, 0);
        x.act(2, 1, Kinds.PUT, 1, 0);
        x.act(2, 1, Kinds.BY, 1, 0);
        x.act(1, 1, Kinds.GET, 0, 0);
        x.act(2, 0, Kinds.GET, 0, 0);
        due("ring", x.count(6), 1);
        x.end(1);
        due("cut all", x.cut(0), 0);
        int[] want = {0, 2, 0, 0, 0, 2, 1, 0, 5, 3, 1, 0, 0, 5, 5, 200, 0, 1};
        for (int what = 0; what < want.length; what++) {
            due("count(" + what + ") behind a cut", x.count(what), want[what]);
        }
    }
}
