/** The edges that promises 27 commute and 28 tried name: just inside, on, just outside. */
public final class EdgesPairsTest {
    private static final Check CHECK = new Check("EdgesPairsTest");
    private static final int MIN = Integer.MIN_VALUE, MAX = Integer.MAX_VALUE, MOST = 1000000000;
    private static final String[] HAS = {"1267", "16", "16", "2", "3", "3", "3", "345", "4", "4", "4", "4", "5", "5",
        "5", "6", "6", "7", "7", "6", "0", "01234567"};
    private static HoldHouse used;
    private static int usedCalls = 450;

    public static void main(String[] args) {
        commuteSorts();
        commuteKinds();
        commuteAny();
        commuteSetsAndMaps();
        commuteNeverWithSumAndHold();
        triedSorts();
        triedKinds();
        triedAs();
        triedSmallValues();
        triedSmallAccounts();
        triedSmallRegisters();
        triedSmallSets();
        triedSmallQueues();
        triedSmallMaps();
        triedSmallSlots();
        triedAnswersAndLeavings();
        questionsChangeNothing();
        CHECK.close();
    }

    private static void commutes(int want, int sort, int kind, int a, int kind2, int a2) {
        String pair = "(" + sort + ", " + kind + ", " + a + ", " + kind2 + ", " + a2 + ")";
        CHECK.due("commute" + pair, new HoldHouse().commute(sort, kind, a, kind2, a2), want);
        CHECK.due("commute" + pair + " the other way", new HoldHouse().commute(sort, kind2, a2, kind, a), want);
    }

    private static void tries(int want, int sort, int kind, int a, int kind2, int a2) {
        String pair = "(" + sort + ", " + kind + ", " + a + ", " + kind2 + ", " + a2 + ")";
        CHECK.due("tried" + pair, new HoldHouse().tried(sort, kind, a, kind2, a2), want);
        CHECK.due("tried" + pair + " the other way", new HoldHouse().tried(sort, kind2, a2, kind, a), want);
        CHECK.due("tried" + pair + " on a used house", usedHouse().tried(sort, kind, a, kind2, a2), want);
    }

    /** A house in which tried() and serial() were asked before: what they tried then must not tell now. */
    private static HoldHouse usedHouse() {
        if (usedCalls >= 450) {
            used = new HoldHouse();
            usedCalls = 0;
            int[][] acts = {{0, Kinds.STORE, 0, 7}, {0, Kinds.STORE, 1, 8}, {1, Kinds.STORE, 0, 9},
                {1, Kinds.STORE, 1, 6}, {2, Kinds.ENTER, 5, 0}, {3, Kinds.ENTER, 4, 0}};
            used.make(Kinds.MAP, -1, 0);
            used.make(Kinds.MAP, -1, 0);
            used.make(Kinds.QUEUE, -1, 0);
            used.make(Kinds.QUEUE, -1, 0);
            used.begin(0);
            for (int[] act : acts) {
                used.act(1, act[0], act[1], act[2], act[3]);
            }
            used.end(1);
        }
        usedCalls += 2;
        CHECK.due("serial", used.serial(), 1);
        return used;
    }

    /** commute: "BAD: no such SORT". */
    private static void commuteSorts() {
        for (int sort : new int[] {MIN, -1, 8, 9, MAX}) {
            commutes(Kinds.BAD, sort, Kinds.GET, 0, Kinds.GET, 0);
        }
        for (int sort = 0; sort < 8; sort++) {
            commutes(1, sort, Kinds.GET, 0, Kinds.GET, 0);
        }
    }

    /** commute: "BAD: .. KINDS (0 .. 21)". */
    private static void commuteKinds() {
        for (int kind : new int[] {MIN, -1, 22, 23, 32, 38, MAX}) {
            commutes(Kinds.BAD, Kinds.SET, kind, 0, Kinds.GET, 0);
            commutes(Kinds.BAD, Kinds.SET, kind, 0, kind, 0);
        }
        commutes(1, Kinds.SET, 0, 0, 0, 0);
        commutes(0, Kinds.SET, 21, 0, 21, 0);
    }

    /** commute: any a; "KINDS that it has not, too, as told: two READING ones do". */
    private static void commuteAny() {
        int[] reading = {0, 6, 7, 10, 11, 14, 18};
        for (int sort = 0; sort < 8; sort++) {
            for (int kind : reading) {
                for (int kind2 : reading) {
                    for (int a : new int[] {MIN, -1, 32, 1001, MAX}) {
                        commutes(1, sort, kind, a, kind2, a);
                        commutes(1, sort, kind, a, kind2, 0);
                    }
                }
            }
            for (int a : new int[] {MIN, 0, MAX}) {
                commutes(sort == Kinds.COUNTER ? 1 : 0, sort, Kinds.ADD, a, Kinds.ADD, a);
                commutes(sort == Kinds.COUNTER ? 1 : 0, sort, Kinds.ADD, a, Kinds.ADD, 5);
                commutes(sort == Kinds.ACCOUNT ? 1 : 0, sort, Kinds.PAY, a, Kinds.PAY, a);
                commutes(sort == Kinds.ACCOUNT ? 1 : 0, sort, Kinds.PAY, a, Kinds.PAY, 5);
                commutes(0, sort, Kinds.ADD, a, Kinds.PAY, 5);
                commutes(0, sort, Kinds.ADD, a, Kinds.GET, a);
                commutes(0, sort, Kinds.DRAW, a, Kinds.DRAW, 5);
                commutes(0, sort, Kinds.PUT, a, Kinds.PUT, a);
                commutes(0, sort, Kinds.BY, a, Kinds.BY, a);
            }
        }
    }

    /** "of 4, 5, 6 on a SET, of 12, 13, 14 on a MAP any two with other a", of the one not the other's KINDS. */
    private static void commuteSetsAndMaps() {
        for (int sort = 0; sort < 8; sort++) {
            for (int kind = 3; kind <= 15; kind++) {
                for (int kind2 = 3; kind2 <= 15; kind2++) {
                    boolean reads = isReading(kind) && isReading(kind2);
                    boolean set = sort == Kinds.SET && isIn(kind, 4, 6) && isIn(kind2, 4, 6);
                    boolean map = sort == Kinds.MAP && isIn(kind, 12, 14) && isIn(kind2, 12, 14);
                    boolean pays = sort == Kinds.ACCOUNT && kind == Kinds.PAY && kind2 == Kinds.PAY;
                    commutes(reads || pays ? 1 : 0, sort, kind, 3, kind2, 3);
                    commutes(reads || pays || set || map ? 1 : 0, sort, kind, 3, kind2, 4);
                    commutes(reads || pays || set || map ? 1 : 0, sort, kind, -1, kind2, 3);
                }
            }
        }
    }

    private static boolean isIn(int kind, int least, int most) {
        return kind >= least && kind <= most;
    }

    private static boolean isReading(int kind) {
        return kind == 0 || kind == 6 || kind == 7 || kind == 10 || kind == 11 || kind == 14 || kind == 18;
    }

    /** commute: "with 20, 21 none does". */
    private static void commuteNeverWithSumAndHold() {
        for (int sort = 0; sort < 8; sort++) {
            for (int kind = 0; kind < 22; kind++) {
                for (int a = 0; a <= 1; a++) {
                    commutes(0, sort, kind, 0, Kinds.SUM, a);
                    commutes(0, sort, kind, 0, Kinds.HOLD, a);
                    commutes(0, sort, kind, 1, Kinds.HOLD, a);
                }
            }
        }
    }

    /** tried: "BAD: the SORT"; a FOLDER has no KIND but 20, 21. */
    private static void triedSorts() {
        for (int sort : new int[] {MIN, -1, 8, 9, MAX}) {
            for (int kind = 0; kind < 18; kind++) {
                tries(Kinds.BAD, sort, kind, kind == Kinds.POINT ? -1 : 0, kind, kind == Kinds.POINT ? -1 : 0);
            }
        }
        for (int kind = 0; kind < 22; kind++) {
            tries(Kinds.BAD, Kinds.FOLDER, kind, kind == Kinds.POINT ? -1 : 0, kind, 0);
        }
    }

    /** tried: "BAD: .. KINDS that it has not, 18, 19, 20, 21". */
    private static void triedKinds() {
        for (int sort = 1; sort < 8; sort++) {
            int own = 0;
            while (HAS[own].indexOf('0' + sort) < 0) {
                own++;
            }
            for (int kind = -1; kind <= 22; kind++) {
                boolean has = kind >= 0 && kind < 18 && HAS[kind].indexOf('0' + sort) >= 0;
                int a = kind == Kinds.POINT ? -1 : 0;
                if (has) {
                    int got = new HoldHouse().tried(sort, own, 0, kind, a);
                    CHECK.isTrue("tried of SORT " + sort + ", KIND " + kind, got == 0 || got == 1);
                } else {
                    tries(Kinds.BAD, sort, own, 0, kind, a);
                }
            }
            for (int kind : new int[] {MIN, -32, 32, 38, MAX}) {
                tries(Kinds.BAD, sort, own, 0, kind, 0);
            }
        }
    }

    /** tried: "BAD: .. a as of act() (17: -1 alone)". */
    private static void triedAs() {
        int[][] bounds = {{Kinds.SET, Kinds.INSERT, 0, 31}, {Kinds.SET, Kinds.DELETE, 0, 31},
            {Kinds.SET, Kinds.HAS, 0, 31},
            {Kinds.MAP, Kinds.STORE, 0, 7}, {Kinds.MAP, Kinds.DROP, 0, 7}, {Kinds.MAP, Kinds.LOOK, 0, 7},
            {Kinds.ACCOUNT, Kinds.PAY, 0, 1000}, {Kinds.ACCOUNT, Kinds.DRAW, 0, 1000},
            {Kinds.QUEUE, Kinds.FIRST, MIN, 64},
            {Kinds.SLOT, Kinds.POINT, -1, -1}, {Kinds.COUNTER, Kinds.ADD, MIN, MAX},
            {Kinds.COUNTER, Kinds.BY, MIN, MAX},
            {Kinds.REGISTER, Kinds.PUT, MIN, MAX}, {Kinds.QUEUE, Kinds.ENTER, MIN, MAX},
            {Kinds.QUEUE, Kinds.AT, MIN, MAX},
            {Kinds.QUEUE, Kinds.LEAVE, MIN, MAX}, {Kinds.SET, Kinds.SIZE, MIN, MAX},
            {Kinds.ACCOUNT, Kinds.ADD, MIN, MAX},
            {Kinds.ACCOUNT, Kinds.BY, MIN, MAX}, {Kinds.SLOT, Kinds.GET, MIN, MAX}};
        for (int[] one : bounds) {
            int quiet = isIn(one[0], Kinds.SET, Kinds.MAP) ? Kinds.SIZE : Kinds.GET;
            for (int a : new int[] {one[2], one[3]}) {
                int got = new HoldHouse().tried(one[0], one[1], a, quiet, 0);
                int other = new HoldHouse().tried(one[0], quiet, 0, one[1], a);
                CHECK.isTrue("tried of KIND " + one[1] + " with " + a, (got == 0 || got == 1) && got == other);
            }
            if (one[2] != MIN) {
                tries(Kinds.BAD, one[0], one[1], one[2] - 1, quiet, 0);
                tries(Kinds.BAD, one[0], one[1], MIN, quiet, 0);
            }
            if (one[3] != MAX) {
                tries(Kinds.BAD, one[0], one[1], one[3] + 1, quiet, 0);
                tries(Kinds.BAD, one[0], one[1], MAX, quiet, 0);
            }
        }
        HoldHouse many = new HoldHouse();
        many.make(Kinds.SLOT, -1, 0);
        CHECK.due("POINT to an OBJECT", many.tried(Kinds.SLOT, Kinds.POINT, 0, Kinds.GET, 0), Kinds.BAD);
        CHECK.due("POINT to none", many.tried(Kinds.SLOT, Kinds.POINT, -1, Kinds.GET, 0), 1);
    }

    /** "VALUES 0 to 3 (1 ..)": 3 is one, 4 is none. */
    private static void triedSmallValues() {
        // 3 by 3 is 1, 3 by 5 is 0, and 0 then: other answers. Of 0 to 2 all are 0.
        tries(0, Kinds.COUNTER, Kinds.BY, 3, Kinds.BY, 5);
        // 4 by 4 is 1. Of 0 to 3 all are 0.
        tries(1, Kinds.COUNTER, Kinds.BY, 4, Kinds.BY, 5);
        tries(0, Kinds.COUNTER, Kinds.BY, 2, Kinds.BY, 4);
        // Of 0 by 1 and by 0 alone nothing is another one.
        tries(1, Kinds.COUNTER, Kinds.BY, 1, Kinds.GET, 0);
        tries(0, Kinds.COUNTER, Kinds.BY, -1, Kinds.GET, 0);
        tries(0, Kinds.COUNTER, Kinds.BY, 4, Kinds.GET, 0);
        tries(1, Kinds.COUNTER, Kinds.BY, 0, Kinds.ADD, MAX);
        tries(1, Kinds.COUNTER, Kinds.BY, 0, Kinds.BY, 0);
        tries(1, Kinds.COUNTER, Kinds.ADD, MAX, Kinds.ADD, MIN);
        tries(1, Kinds.COUNTER, Kinds.ADD, 0, Kinds.BY, 7);
        tries(0, Kinds.COUNTER, Kinds.ADD, 1, Kinds.GET, 0);
    }

    /** "VALUES 0 to 3 (.. 6)": 0 and 3 are some, 4 is none. */
    private static void triedSmallAccounts() {
        // Of 3 one DRAW of 3 goes, the second is SHORT. Of 0 to 2 both are.
        tries(0, Kinds.ACCOUNT, Kinds.DRAW, 3, Kinds.DRAW, 3);
        tries(1, Kinds.ACCOUNT, Kinds.DRAW, 4, Kinds.DRAW, 4);
        tries(0, Kinds.ACCOUNT, Kinds.DRAW, 1, Kinds.DRAW, 3);
        // Of 0 the DRAW of 1 is SHORT but behind the PAY. Of 1 to 3 it never is.
        tries(0, Kinds.ACCOUNT, Kinds.PAY, 1, Kinds.DRAW, 1);
        tries(1, Kinds.ACCOUNT, Kinds.PAY, 1000, Kinds.DRAW, 0);
        tries(1, Kinds.ACCOUNT, Kinds.PAY, 1, Kinds.DRAW, 5);
        tries(0, Kinds.ACCOUNT, Kinds.PAY, 1, Kinds.DRAW, 4);
        tries(1, Kinds.ACCOUNT, Kinds.PAY, 1000, Kinds.PAY, 1000);
        // 3 and 999999997 are the most; with 4 it would be FULL, with 1 more it is.
        tries(1, Kinds.ACCOUNT, Kinds.ADD, MOST - 3, Kinds.PAY, 0);
        tries(1, Kinds.ACCOUNT, Kinds.ADD, MOST - 4, Kinds.PAY, 1);
        tries(0, Kinds.ACCOUNT, Kinds.ADD, MOST - 3, Kinds.PAY, 1);
        tries(1, Kinds.ACCOUNT, Kinds.BY, -1, Kinds.PAY, 1);
        tries(1, Kinds.ACCOUNT, Kinds.BY, 0, Kinds.PAY, 1);
        tries(0, Kinds.ACCOUNT, Kinds.BY, 2, Kinds.PAY, 1);
    }

    /** "VALUES 0 to 3 (.. 2 ..)" */
    private static void triedSmallRegisters() {
        for (int a = -1; a <= 4; a++) {
            tries(0, Kinds.REGISTER, Kinds.PUT, a, Kinds.GET, 0);
            tries(0, Kinds.REGISTER, Kinds.PUT, a, Kinds.PUT, a);
            tries(0, Kinds.REGISTER, Kinds.PUT, a, Kinds.PUT, 9);
        }
        tries(1, Kinds.REGISTER, Kinds.GET, 0, Kinds.GET, 1);
    }

    /** "of a SET any of 0, 1, 2": 3 is in none. */
    private static void triedSmallSets() {
        for (int n = 0; n < 32; n++) {
            int never = n > 2 ? 1 : 0;
            tries(never, Kinds.SET, Kinds.DELETE, n, Kinds.SIZE, 0);
            tries(never, Kinds.SET, Kinds.DELETE, n, Kinds.HAS, n);
            tries(never, Kinds.SET, Kinds.DELETE, n, Kinds.DELETE, n);
            tries(0, Kinds.SET, Kinds.INSERT, n, Kinds.SIZE, 0);
            tries(0, Kinds.SET, Kinds.INSERT, n, Kinds.HAS, n);
            tries(0, Kinds.SET, Kinds.INSERT, n, Kinds.INSERT, n);
            tries(0, Kinds.SET, Kinds.INSERT, n, Kinds.DELETE, n);
            tries(1, Kinds.SET, Kinds.INSERT, n, Kinds.DELETE, (n + 1) % 32);
            tries(1, Kinds.SET, Kinds.HAS, n, Kinds.SIZE, 0);
        }
    }

    /** "of a QUEUE one at most, 0 or 1": it may be empty, it has never two. */
    private static void triedSmallQueues() {
        // Of one AT 0 is it, behind ENTER too. Of none it is INDEX, and what came in then.
        tries(0, Kinds.QUEUE, Kinds.ENTER, 5, Kinds.AT, 0);
        tries(0, Kinds.QUEUE, Kinds.ENTER, 5, Kinds.AT, 1);
        tries(1, Kinds.QUEUE, Kinds.ENTER, 5, Kinds.AT, 2);
        tries(1, Kinds.QUEUE, Kinds.ENTER, 5, Kinds.AT, -1);
        tries(1, Kinds.QUEUE, Kinds.ENTER, 5, Kinds.FIRST, 0);
        tries(0, Kinds.QUEUE, Kinds.ENTER, 5, Kinds.FIRST, 1);
        tries(0, Kinds.QUEUE, Kinds.ENTER, 5, Kinds.FIRST, 2);
        tries(1, Kinds.QUEUE, Kinds.ENTER, 5, Kinds.FIRST, 3);
        tries(1, Kinds.QUEUE, Kinds.ENTER, 5, Kinds.FIRST, 64);
        tries(1, Kinds.QUEUE, Kinds.ENTER, 5, Kinds.FIRST, -1);
        tries(0, Kinds.QUEUE, Kinds.ENTER, 5, Kinds.SIZE, 0);
        tries(0, Kinds.QUEUE, Kinds.ENTER, 5, Kinds.ENTER, 5);
        tries(0, Kinds.QUEUE, Kinds.ENTER, 0, Kinds.LEAVE, 0);
        // Of one AT 0 is INDEX behind LEAVE. Of two AT 1 would be, too.
        tries(0, Kinds.QUEUE, Kinds.LEAVE, 0, Kinds.AT, 0);
        tries(1, Kinds.QUEUE, Kinds.LEAVE, 0, Kinds.AT, 1);
        tries(0, Kinds.QUEUE, Kinds.LEAVE, 0, Kinds.FIRST, 1);
        tries(1, Kinds.QUEUE, Kinds.LEAVE, 0, Kinds.FIRST, 2);
        tries(1, Kinds.QUEUE, Kinds.LEAVE, 0, Kinds.FIRST, 0);
        tries(0, Kinds.QUEUE, Kinds.LEAVE, 0, Kinds.SIZE, 0);
        tries(0, Kinds.QUEUE, Kinds.LEAVE, 0, Kinds.LEAVE, 0);
        tries(1, Kinds.QUEUE, Kinds.AT, 0, Kinds.FIRST, 1);
    }

    /** "of a MAP for KEYS 0, 1 none, 0 or 1": KEY 2 has none. */
    private static void triedSmallMaps() {
        for (int key = 0; key < 8; key++) {
            int never = key > 1 ? 1 : 0;
            tries(never, Kinds.MAP, Kinds.DROP, key, Kinds.SIZE, 0);
            tries(never, Kinds.MAP, Kinds.DROP, key, Kinds.LOOK, key);
            tries(never, Kinds.MAP, Kinds.DROP, key, Kinds.DROP, key);
            tries(0, Kinds.MAP, Kinds.STORE, key, Kinds.LOOK, key);
            tries(0, Kinds.MAP, Kinds.STORE, key, Kinds.DROP, key);
            tries(0, Kinds.MAP, Kinds.STORE, key, Kinds.STORE, key);
            tries(0, Kinds.MAP, Kinds.STORE, key, Kinds.SIZE, 0);
            tries(1, Kinds.MAP, Kinds.LOOK, key, Kinds.SIZE, 0);
            for (int kind = Kinds.STORE; kind <= Kinds.LOOK; kind++) {
                for (int kind2 = Kinds.STORE; kind2 <= Kinds.LOOK; kind2++) {
                    tries(1, Kinds.MAP, kind, key, kind2, (key + 1) % 8);
                }
            }
        }
    }

    /** "of a SLOT -1 alone" */
    private static void triedSmallSlots() {
        tries(1, Kinds.SLOT, Kinds.GET, 0, Kinds.GET, 0);
        tries(1, Kinds.SLOT, Kinds.GET, 0, Kinds.POINT, -1);
        tries(1, Kinds.SLOT, Kinds.POINT, -1, Kinds.POINT, -1);
    }

    /** "answer the same, FINDINGS too, and leave the same" */
    private static void triedAnswersAndLeavings() {
        // The same is left, but the answers are others.
        tries(0, Kinds.REGISTER, Kinds.PUT, 1, Kinds.PUT, 1);
        tries(0, Kinds.SET, Kinds.INSERT, 1, Kinds.INSERT, 1);
        // The answers are the same, but others are left: 0 to 3 by 9 are 0, and 1 by 9 too.
        tries(0, Kinds.COUNTER, Kinds.BY, 9, Kinds.ADD, 1);
        // An ANSWER one way, a FINDING the other way.
        tries(0, Kinds.MAP, Kinds.STORE, 5, Kinds.LOOK, 5);
        tries(0, Kinds.ACCOUNT, Kinds.PAY, 4, Kinds.DRAW, 4);
        // FULL one way alone; an ANSWER of 0 is not a FINDING.
        tries(0, Kinds.ACCOUNT, Kinds.ADD, MOST, Kinds.DRAW, 1);
        tries(0, Kinds.QUEUE, Kinds.LEAVE, 0, Kinds.AT, 0);
    }

    /** Questions leave all as it was. */
    private static void questionsChangeNothing() {
        Scene scene = new Scene(CHECK, x -> {
            for (int sort = 0; sort < 8; sort++) {
                x.make(sort, -1, 2);
            }
            x.begin(0);
            x.begin(0);
            x.act(1, 4, Kinds.ENTER, 5, 0);
            x.act(1, 5, Kinds.STORE, 1, 5);
            x.act(2, 4, Kinds.LEAVE, 0, 0);
        });
        scene.refused("tried", x -> x.tried(Kinds.QUEUE, Kinds.ENTER, 3, Kinds.LEAVE, 0), 0);
        scene.refused("tried", x -> x.tried(Kinds.MAP, Kinds.STORE, 0, Kinds.DROP, 1), 1);
        scene.refused("tried", x -> x.tried(Kinds.SET, 22, 0, Kinds.SIZE, 1), Kinds.BAD);
        scene.refused("commute", x -> x.commute(Kinds.SET, Kinds.INSERT, 0, Kinds.INSERT, 1), 1);
        scene.refused("commute", x -> x.commute(8, Kinds.INSERT, 0, Kinds.INSERT, 1), Kinds.BAD);
        scene.refused("serial", x -> x.serial(), 1);
        scene.refused("digest", x -> x.digest(), scene.house().digest());
    }
}
