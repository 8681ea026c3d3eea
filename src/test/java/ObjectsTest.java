/** Promises 1 A new object, 2 make, 3 object, 32 digest. */
public final class ObjectsTest {
    private static final Check CHECK = new Check("ObjectsTest");

    private static void due(String call, long got, long want) {
        CHECK.due(call, got, want);
    }

    public static void main(String[] args) {
        newObject();
        makeEachSort();
        makeWrong();
        makeDepth();
        makeMany();
        makeUnderWay();
        digests();
        liveAndKept();
        CHECK.close();
    }

    private static void newObject() {
        HoldHouse x = new HoldHouse();
        int[] counts = {0, 0, 0, 0, 0, 0, 0, 0, 0, 0, 0, 0, 0, 0, 0, 200, 0, 1};
        for (int what = 0; what < counts.length; what++) {
            due("new count(" + what + ")", x.count(what), counts[what]);
        }
        due("new digest", x.digest(), 17);
        due("new object(0, 0)", x.object(0, 0), Kinds.BAD);
        due("new of(1, 0)", x.of(1, 0), Kinds.BAD);
        due("new ring", x.ring(-1), Kinds.NONE);
        due("new ring", x.ring(0), Kinds.NONE);
        due("new row", x.row(0, 0), Kinds.NONE);
        due("new trace", x.trace(0), Kinds.NONE);
        due("new serial", x.serial(), 1);
        due("new ended", x.ended(1), Kinds.NONE);
        due("new crash", x.crash(), 0);
        due("new cut", x.cut(0), 0);
        due("new cut(1)", x.cut(1), Kinds.BAD);
        due("rule was", x.rule(3), 0);
        due("limit was", x.limit(5), 200);
        due("group was", x.group(5), 1);
    }

    private static void makeEachSort() {
        HoldHouse x = new HoldHouse();
        int[] asMade = {0, 7, 7, 0, 17, 17, 7, -1};
        int d17 = 17;
        for (int i = 0; i < 8; i++) {
            d17 *= 31;
        }
        asMade[5] = d17;
        for (int sort = 0; sort < 8; sort++) {
            due("make", x.make(sort, sort < 2 ? -1 : 0, 7), sort);
            due("sort", x.object(sort, 0), sort);
            due("parent", x.object(sort, 1), sort < 2 ? -1 : 0);
            due("digest of " + sort, x.object(sort, 2), asMade[sort]);
            due("digest of kept " + sort, x.object(sort, 3), asMade[sort]);
            due("as made version", x.version(sort, 0), asMade[sort]);
        }
        due("objects", x.count(0), 8);
        due("make(1, -1, least)", x.make(1, -1, Integer.MIN_VALUE), 8);
        due("least", x.object(8, 2), Integer.MIN_VALUE);
        due("make(2, 0, most)", x.make(2, 0, Integer.MAX_VALUE), 9);
        due("most", x.object(9, 2), Integer.MAX_VALUE);
    }

    private static void makeWrong() {
        HoldHouse x = new HoldHouse();
        due("make(-1)", x.make(-1, -1, 0), Kinds.BAD);
        due("make(8)", x.make(8, -1, 0), Kinds.BAD);
        due("parent none", x.make(1, 0, 0), Kinds.BAD);
        due("parent -2", x.make(1, -2, 0), Kinds.BAD);
        due("account -1", x.make(6, -1, -1), Kinds.BAD);
        due("account too much", x.make(6, -1, 1000000001), Kinds.BAD);
        due("account most", x.make(6, -1, 1000000000), 0);
        due("account least", x.make(6, -1, 0), 1);
        due("parent no folder", x.make(1, 0, 0), Kinds.BAD);
        due("folder with any v", x.make(0, -1, Integer.MIN_VALUE), 2);
        due("folder digest", x.object(2, 2), 0);
        due("set with any v", x.make(3, 2, -5), 3);
        due("set digest", x.object(3, 2), 0);
        due("slot with any v", x.make(7, 2, 2), 4);
        due("slot digest", x.object(4, 2), -1);
        due("itself as parent", x.make(0, 5, 0), Kinds.BAD);
        due("object(-1)", x.object(-1, 0), Kinds.BAD);
        due("object(5)", x.object(5, 0), Kinds.BAD);
        due("object what -1", x.object(0, -1), Kinds.BAD);
        due("object what 4", x.object(0, 4), Kinds.BAD);
        due("rows", x.count(11), 5);
    }

    private static void makeDepth() {
        HoldHouse x = new HoldHouse();
        due("folder 0", x.make(0, -1, 0), 0);
        for (int i = 1; i < 5; i++) {
            due("folder " + i, x.make(0, i - 1, 0), i);
        }
        due("sixth folder", x.make(0, 4, 0), Kinds.FULL);
        due("counter in the fifth", x.make(1, 4, 3), 5);
        due("folder beside the fifth", x.make(0, 3, 0), 6);
        due("folder too deep there", x.make(0, 6, 0), Kinds.FULL);
        due("refused, nothing changes", x.count(0), 7);
        due("refused, no row", x.count(11), 7);
        due("bad ahead of full", x.make(0, 5, 0), Kinds.BAD);
    }

    private static void makeMany() {
        HoldHouse x = new HoldHouse();
        for (int i = 0; i < 40; i++) {
            due("make " + i, x.make(1 + i % 2, -1, i), i);
        }
        due("make 41st", x.make(1, -1, 0), Kinds.FULL);
        due("make 41st, bad", x.make(9, -1, 0), Kinds.BAD);
        due("objects", x.count(0), 40);
        due("last", x.object(39, 2), 39);
        due("begin", x.begin(0), 1);
        due("state ahead of full", x.make(1, -1, 0), Kinds.STATE);
        due("end", x.end(1), 1);
        due("cut one", x.cut(39), 0);
        due("room again", x.make(3, -1, 0), 39);
        due("its sort", x.object(39, 0), 3);
        due("full again", x.make(3, -1, 0), Kinds.FULL);
    }

    private static void makeUnderWay() {
        HoldHouse x = new HoldHouse();
        x.begin(0);
        due("make under way", x.make(1, -1, 0), Kinds.STATE);
        due("make under way, bad", x.make(1, 3, 0), Kinds.BAD);
        due("nothing made", x.count(0), 0);
        x.undo(1);
        due("make behind it", x.make(1, -1, 0), 0);
    }

    private static void digests() {
        HoldHouse x = new HoldHouse();
        x.make(3, -1, 0);
        x.make(4, -1, 0);
        x.make(5, -1, 0);
        x.begin(0);
        x.act(1, 0, Kinds.INSERT, 31, 0);
        due("set 31", x.object(0, 2), Integer.MIN_VALUE);
        x.act(1, 0, Kinds.INSERT, 0, 0);
        due("set 31, 0", x.object(0, 2), Integer.MIN_VALUE + 1);
        x.act(1, 1, Kinds.ENTER, 5, 0);
        due("queue 5", x.object(1, 2), 17 * 31 + 5);
        x.act(1, 1, Kinds.ENTER, -1, 0);
        due("queue 5, -1", x.object(1, 2), (17 * 31 + 5) * 31 - 1);
        x.act(1, 2, Kinds.STORE, 7, 4);
        int none = 17;
        for (int i = 0; i < 7; i++) {
            none *= 31;
        }
        due("map 7: 4", x.object(2, 2), none * 31 + 5);
        x.act(1, 2, Kinds.STORE, 7, -1);
        due("map 7: -1", x.object(2, 2), none * 31);
        int d = 17;
        for (int o = 0; o < 3; o++) {
            d = 31 * d + x.object(o, 2);
        }
        due("digest()", x.digest(), d);
    }

    private static void liveAndKept() {
        HoldHouse x = new HoldHouse();
        x.make(2, -1, 5);
        due("digest of one", x.digest(), 17 * 31 + 5);
        x.begin(0);
        x.act(1, 0, Kinds.PUT, 9, 0);
        due("now", x.object(0, 2), 9);
        due("kept", x.object(0, 3), 5);
        due("digest now", x.digest(), 17 * 31 + 9);
        x.end(1);
        due("kept behind the end", x.object(0, 3), 9);
    }
}
