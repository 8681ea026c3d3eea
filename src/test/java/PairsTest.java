/** Promises 27 commute and 28 tried. */
public final class PairsTest {
    private static final Check CHECK = new Check("PairsTest");
    private static final String[] HAS = {"1267", "16", "16", "2", "3", "3", "3", "345", "4", "4", "4", "4", "5", "5",
        "5", "6", "6", "7", "7", "6", "0", "01234567"};
    private static final boolean[] READING = new boolean[22];

    private static void due(String call, long got, long want) {
        CHECK.due(call, got, want);
    }

    public static void main(String[] args) {
        for (int kind : new int[] {0, 6, 7, 10, 11, 14, 18}) {
            READING[kind] = true;
        }
        commuteTable();
        commuteWrong();
        triedKnown();
        triedWrong();
        commuteIsTried();
        leavesAllAsItWas();
        CHECK.close();
    }

    private static int commuteDue(int sort, int kind, int a, int kind2, int a2) {
        if (kind >= 20 || kind2 >= 20) {
            return 0;
        }
        if (READING[kind] && READING[kind2]) {
            return 1;
        }
        boolean sets = sort == 3 && kind >= 4 && kind <= 6 && kind2 >= 4 && kind2 <= 6;
        boolean maps = sort == 5 && kind >= 12 && kind <= 14 && kind2 >= 12 && kind2 <= 14;
        if ((sets || maps) && a != a2) {
            return 1;
        }
        boolean adds = sort == 1 && kind == 1 && kind2 == 1;
        boolean pays = sort == 6 && kind == 15 && kind2 == 15;
        return adds || pays ? 1 : 0;
    }

    private static void commuteTable() {
        int[] as = {0, 1, -7, Integer.MAX_VALUE};
        for (int sort = 0; sort < 8; sort++) {
            for (int kind = 0; kind < 22; kind++) {
                HoldHouse x = new HoldHouse();
                for (int kind2 = 0; kind2 < 22; kind2++) {
                    for (int a : as) {
                        due("commute(" + sort + ", " + kind + ", " + a + ", " + kind2 + ", 1)",
                                x.commute(sort, kind, a, kind2, 1), commuteDue(sort, kind, a, kind2, 1));
                    }
                }
            }
        }
    }

    private static void commuteWrong() {
        HoldHouse x = new HoldHouse();
        due("sort -1", x.commute(-1, 0, 0, 0, 0), Kinds.BAD);
        due("sort 8", x.commute(8, 0, 0, 0, 0), Kinds.BAD);
        due("kind -1", x.commute(0, -1, 0, 0, 0), Kinds.BAD);
        due("kind 22", x.commute(0, 22, 0, 0, 0), Kinds.BAD);
        due("kind2 -1", x.commute(0, 0, 0, -1, 0), Kinds.BAD);
        due("kind2 22", x.commute(0, 0, 0, 22, 0), Kinds.BAD);
        due("kind2 32", x.commute(0, 0, 0, 32, 0), Kinds.BAD);
    }

    private static void triedKnown() {
        HoldHouse x = new HoldHouse();
        due("two adds", x.tried(1, 1, 5, 1, Integer.MAX_VALUE), 1);
        due("add, get", x.tried(1, 1, 5, 0, 0), 0);
        due("add of 0, get", x.tried(1, 1, 0, 0, 0), 1);
        due("add, by", x.tried(1, 1, 1, 2, 2), 0);
        due("by 1, add", x.tried(1, 2, 1, 1, 3), 0);
        due("by 2, by 3, other answers", x.tried(1, 2, 2, 2, 3), 0);
        due("by 4, by 5, all to 0", x.tried(1, 2, 4, 2, 5), 1);
        due("by 8, add 1 answer the same, but leave other values", x.tried(1, 2, 8, 1, 1), 0);
        due("by 0 is found either way", x.tried(1, 2, 0, 1, 1), 1);
        due("put, put", x.tried(2, 3, 1, 3, 1), 0);
        due("get, put", x.tried(2, 0, 0, 3, 1), 0);
        due("inserts of other numbers", x.tried(3, 4, 0, 4, 1), 1);
        due("insert twice", x.tried(3, 4, 0, 4, 0), 0);
        due("insert, delete", x.tried(3, 4, 0, 5, 0), 0);
        due("insert, has", x.tried(3, 4, 2, 6, 2), 0);
        due("insert, size", x.tried(3, 4, 2, 7, 0), 0);
        due("has, size", x.tried(3, 6, 2, 7, 0), 1);
        due("enter, enter", x.tried(4, 8, 1, 8, 2), 0);
        due("enter, leave", x.tried(4, 8, 0, 9, 0), 0);
        due("leave, leave", x.tried(4, 9, 0, 9, 0), 0);
        due("enter, at 5 is found either way", x.tried(4, 8, 0, 10, 5), 1);
        due("enter, at 1", x.tried(4, 8, 0, 10, 1), 0);
        due("enter, first -1", x.tried(4, 8, 0, 11, -1), 1);
        due("enter, first 64", x.tried(4, 8, 0, 11, 64), 1);
        due("enter, first 2", x.tried(4, 8, 0, 11, 2), 0);
        due("store, store of other keys", x.tried(5, 12, 0, 12, 1), 1);
        due("store twice, 1 both times", x.tried(5, 12, 0, 12, 0), 0);
        due("drop, drop", x.tried(5, 13, 0, 13, 0), 0);
        due("drop, look of a key that none has", x.tried(5, 13, 7, 14, 7), 1);
        due("drop, size of a key that none has", x.tried(5, 13, 7, 7, 0), 1);
        due("drop, size", x.tried(5, 13, 1, 7, 0), 0);
        due("pay, pay", x.tried(6, 15, 1000, 15, 3), 1);
        due("pay, draw", x.tried(6, 15, 1, 16, 1), 0);
        due("draw, draw", x.tried(6, 16, 1, 16, 2), 0);
        due("draw 4, draw 5, found either way", x.tried(6, 16, 4, 16, 5), 1);
        due("add, pay", x.tried(6, 1, 4, 15, 5), 1);
        due("add full, pay", x.tried(6, 1, 1000000000, 15, 1), 0);
        due("by -1 is found, add", x.tried(6, 2, -1, 1, 1), 1);
        due("by -1 is not of a counter", x.tried(1, 2, -1, 1, 1), 0);
        due("point, point", x.tried(7, 17, -1, 17, -1), 1);
        due("point, get", x.tried(7, 17, -1, 0, 0), 1);
    }

    private static void triedWrong() {
        HoldHouse x = new HoldHouse();
        x.make(7, -1, 0);
        due("sort -1", x.tried(-1, 0, 0, 0, 0), Kinds.BAD);
        due("sort 8", x.tried(8, 0, 0, 0, 0), Kinds.BAD);
        for (int sort = 0; sort < 8; sort++) {
            for (int kind = -1; kind <= 22; kind++) {
                boolean has = kind >= 0 && kind < 18 && HAS[kind].indexOf('0' + sort) >= 0;
                int a = kind == 17 ? -1 : 0;
                boolean bad = x.tried(sort, kind, a, kind, a) == Kinds.BAD;
                due("tried(" + sort + ", " + kind + ")", bad ? 0 : 1, has ? 1 : 0);
            }
        }
        int[][] bad = {{3, 4, -1}, {3, 4, 32}, {3, 5, 32}, {3, 6, 32}, {5, 12, 8}, {5, 13, -1}, {5, 14, 8}, {6, 15, -1},
            {6, 15, 1001}, {6, 16, 1001}, {4, 11, 65}, {7, 17, 0}, {7, 17, -2}, {7, 18, 0}, {6, 19, 0}, {0, 20, 0},
            {0, 21, 0}, {1, 21, 1}};
        for (int[] act : bad) {
            int size = act[0] >= 3 && act[0] <= 5 ? 7 : 0;
            due("bad first", x.tried(act[0], act[1], act[2], size, 0), Kinds.BAD);
            due("bad second", x.tried(act[0], size, 0, act[1], act[2]), Kinds.BAD);
        }
        due("kind2 of another sort", x.tried(1, 0, 0, 3, 0), Kinds.BAD);
        due("kind of another sort", x.tried(1, 3, 0, 0, 0), Kinds.BAD);
    }

    private static void commuteIsTried() {
        int[] as = {-2, -1, 0, 1, 2, 3, 7, 1000};
        for (int sort = 1; sort < 8; sort++) {
            for (int kind = 0; kind < 18; kind++) {
                for (int kind2 = 0; kind2 < 18; kind2++) {
                    HoldHouse x = new HoldHouse();
                    for (int a : as) {
                        for (int a2 : as) {
                            int tried = x.tried(sort, kind, a, kind2, a2);
                            boolean fine = tried != 0 || x.commute(sort, kind, a, kind2, a2) == 0;
                            CHECK.isTrue("what commutes is tried: " + sort + " " + kind + " " + kind2, fine);
                            due("either way", x.tried(sort, kind2, a2, kind, a), tried);
                        }
                    }
                }
            }
        }
    }

    private static void leavesAllAsItWas() {
        HoldHouse x = new HoldHouse();
        x.make(4, -1, 0);
        x.make(5, -1, 0);
        x.begin(0);
        x.act(1, 0, Kinds.ENTER, 5, 0);
        x.act(1, 1, Kinds.STORE, 1, 5);
        x.end(1);
        int digest = x.digest();
        x.tried(4, 8, 3, 9, 0);
        x.tried(5, 12, 0, 13, 0);
        due("digest", x.digest(), digest);
        due("trace", x.trace(0), 16);
        due("trace", x.trace(1), Kinds.NONE);
        due("serial", x.serial(), 1);
        due("tried again", x.tried(4, 8, 3, 9, 0), 0);
        due("trace behind serial", x.trace(0), 16);
    }
}
