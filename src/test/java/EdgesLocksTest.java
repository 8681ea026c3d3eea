/**
 * The edges that LOCKS, TO ASK, SETTLING and RINGS and promises 15 lock, 16 waits, 17 ring, 18 rule and 19 limit
 * name: just inside, on, just outside; what is refused changes nothing.
 */
public final class EdgesLocksTest {
    private static final Check CHECK = new Check("EdgesLocksTest");
    private static final int MIN = Integer.MIN_VALUE, MAX = Integer.MAX_VALUE;

    public static void main(String[] args) {
        lockNumbers();
        lockWhats();
        lockOrder();
        waitNumbers();
        waitWhats();
        elevenWaits();
        fiveFoldersOfLocks();
        heldAlready();
        heldByALowerLevel();
        noneConflictsWithItself();
        foldersBesideOneAnother();
        keysBesideOneAnother();
        paysBesideOneAnother();
        bumpNeeds();
        bumpOfItself();
        moveNeeds();
        holdersStandAhead();
        aheadHinders();
        aheadHindersNotWithoutConflict();
        nothingToSettle();
        settlesInOneCall();
        ringNumbers();
        ringOfTwelve();
        ringOfTwelveByRules();
        ringByQueue();
        ringAmongMany();
        noRing();
        victimsOfLikeOnes();
        elevenRingsInOneCall();
        cutLeavesNone();
        ruleBounds();
        limitBounds();
        CHECK.close();
    }

    private static Scene scene(Scene.Story story) {
        return new Scene(CHECK, story);
    }

    /** So many REGISTERS with 0, and so many TRANSACTIONS, whose RANKS are their numbers. */
    private static Scene registers(int many, int begun) {
        return scene(x -> {
            for (int o = 0; o < many; o++) {
                x.make(Kinds.REGISTER, -1, 0);
            }
            for (int t = 1; t <= begun; t++) {
                x.begin(t);
            }
        });
    }

    private static void lockIs(Scene scene, int o, int i, int... want) {
        for (int what = 0; what < 4; what++) {
            int asked = what;
            int due = what < want.length ? want[what] : Kinds.NONE;
            scene.due("lock(" + o + ", " + i + ", " + what + ")", x -> x.lock(o, i, asked), due);
        }
    }

    private static void waitIs(Scene scene, int o, int i, int... want) {
        for (int what = 0; what < 4; what++) {
            int asked = what;
            int due = what < want.length ? want[what] : Kinds.NONE;
            scene.due("waits(" + o + ", " + i + ", " + what + ")", x -> x.waits(o, i, asked), due);
        }
    }

    private static Scene twoLocksAndWaits() {
        return registers(2, 4).then(x -> {
            x.act(1, 0, Kinds.GET, 7, 0);
            x.act(2, 0, Kinds.GET, 8, 0);
            x.act(3, 0, Kinds.PUT, 9, 0);
            x.act(4, 0, Kinds.HOLD, 1, 0);
        });
    }

    /** lock: "Of lock i on an OBJECT .. NONE; BAD." */
    private static void lockNumbers() {
        Scene two = twoLocksAndWaits();
        for (int what = 0; what < 4; what++) {
            int asked = what;
            for (int i : new int[] {MIN, -1, 2, 3, MAX}) {
                two.due("lock(0, " + i + ", " + what + ")", x -> x.lock(0, i, asked), Kinds.NONE);
            }
            two.due("no lock there", x -> x.lock(1, 0, asked), Kinds.NONE);
            for (int o : new int[] {MIN, -1, 2, 39, 40, MAX}) {
                two.refused("lock(" + o + ", 0, " + what + ")", x -> x.lock(o, 0, asked), Kinds.BAD);
            }
        }
        lockIs(two, 0, 0, 1, Kinds.ACT, Kinds.GET, 7);
        lockIs(two, 0, 1, 2, Kinds.ACT, Kinds.GET, 8);
    }

    /** lock: what is 0 to 3. */
    private static void lockWhats() {
        Scene two = twoLocksAndWaits();
        for (int what : new int[] {MIN, -1, 4, 5, MAX}) {
            two.refused("lock(0, 0, " + what + ")", x -> x.lock(0, 0, what), Kinds.BAD);
            two.refused("lock(0, 1, " + what + ")", x -> x.lock(0, 1, what), Kinds.BAD);
            two.refused("BAD ahead of NONE", x -> x.lock(0, 2, what), Kinds.BAD);
        }
    }

    /** lock: "in the order of their being granted"; "2, 3: NONE but of ACT". */
    private static void lockOrder() {
        Scene all = scene(x -> {
            x.make(Kinds.FOLDER, -1, 0);
            x.make(Kinds.COUNTER, 0, 0);
            x.begin(0);
            x.act(1, 1, Kinds.GET, MIN, 0);
            x.act(1, 1, Kinds.ADD, MAX, 0);
            x.act(1, 0, Kinds.HOLD, 0, 0);
            x.act(1, 0, Kinds.HOLD, 1, 0);
            x.act(1, 0, Kinds.SUM, 5, 0);
        });
        lockIs(all, 0, 0, 1, Kinds.IS);
        lockIs(all, 0, 1, 1, Kinds.IX);
        lockIs(all, 0, 2, 1, Kinds.S);
        lockIs(all, 0, 3, 1, Kinds.X);
        all.due("SUM needs the S that is held", x -> x.lock(0, 4, 0), Kinds.NONE);
        lockIs(all, 1, 0, 1, Kinds.ACT, Kinds.GET, MIN);
        lockIs(all, 1, 1, 1, Kinds.ACT, Kinds.ADD, MAX);
        Scene granted = registers(1, 3).then(x -> {
            x.act(2, 0, Kinds.PUT, 1, 0);
            x.act(3, 0, Kinds.GET, 3, 0);
            x.act(1, 0, Kinds.GET, 1, 0);
            x.end(2);
        });
        lockIs(granted, 0, 0, 3, Kinds.ACT, Kinds.GET, 3);
        lockIs(granted, 0, 1, 1, Kinds.ACT, Kinds.GET, 1);
    }

    /** waits: "Of wait i of an OBJECT's QUEUE OF WAITS: likewise. NONE; BAD." */
    private static void waitNumbers() {
        Scene two = twoLocksAndWaits();
        for (int what = 0; what < 4; what++) {
            int asked = what;
            for (int i : new int[] {MIN, -1, 2, 3, MAX}) {
                two.due("waits(0, " + i + ", " + what + ")", x -> x.waits(0, i, asked), Kinds.NONE);
            }
            two.due("no wait there", x -> x.waits(1, 0, asked), Kinds.NONE);
            for (int o : new int[] {MIN, -1, 2, 39, 40, MAX}) {
                two.refused("waits(" + o + ", 0, " + what + ")", x -> x.waits(o, 0, asked), Kinds.BAD);
            }
        }
        waitIs(two, 0, 0, 3, Kinds.ACT, Kinds.PUT, 9);
        waitIs(two, 0, 1, 4, Kinds.X);
    }

    /** waits: what is 0 to 3. */
    private static void waitWhats() {
        Scene two = twoLocksAndWaits();
        for (int what : new int[] {MIN, -1, 4, 5, MAX}) {
            two.refused("waits(0, 0, " + what + ")", x -> x.waits(0, 0, what), Kinds.BAD);
            two.refused("waits(0, 1, " + what + ")", x -> x.waits(0, 1, what), Kinds.BAD);
            two.refused("BAD ahead of NONE", x -> x.waits(0, 2, what), Kinds.BAD);
        }
    }

    /** Twelve under way: one holds, eleven wait, "in the order in which they came". */
    private static void elevenWaits() {
        Scene all = registers(1, 12).then(x -> {
            x.act(12, 0, Kinds.PUT, 12, 0);
            for (int t = 11; t >= 1; t--) {
                x.act(t, 0, Kinds.PUT, t, 0);
            }
        });
        for (int i = 0; i < 11; i++) {
            waitIs(all, 0, i, 11 - i, Kinds.ACT, Kinds.PUT, 11 - i);
        }
        all.due("no twelfth wait", x -> x.waits(0, 11, 0), Kinds.NONE);
        all.due("WAITING", x -> x.count(3), 11);
        Scene next = all;
        for (int t = 12; t >= 2; t--) {
            int one = t;
            next = next.then(x -> x.end(one));
            next.due("the next one goes on", x -> x.object(0, 2), t - 1);
            next.due("waits left", x -> x.count(3), t - 2);
        }
        next.due("no wait is left", x -> x.waits(0, 0, 0), Kinds.NONE);
    }

    /** "on each FOLDER that o lies in, the outermost first, IS (if it is READING) or IX; then on o ACT" */
    private static void fiveFoldersOfLocks() {
        Scene deep = scene(x -> {
            for (int depth = 0; depth < 5; depth++) {
                x.make(Kinds.FOLDER, depth - 1, 0);
            }
            x.make(Kinds.COUNTER, 4, 5);
            x.begin(0);
            x.begin(0);
        });
        Scene get = deep.then(x -> x.act(1, 5, Kinds.GET, 0, 0));
        Scene add = deep.then(x -> x.act(1, 5, Kinds.ADD, 0, 0));
        for (int folder = 0; folder < 5; folder++) {
            lockIs(get, folder, 0, 1, Kinds.IS);
            lockIs(add, folder, 0, 1, Kinds.IX);
        }
        get.due("locks", x -> x.count(7), 6);
        get.due("locks asked for", x -> x.count(13), 6);
        for (int folder = 0; folder < 5; folder++) {
            int at = folder;
            Scene waits = deep.then(x -> {
                x.act(2, at, Kinds.HOLD, 1, 0);
                x.act(1, 5, Kinds.GET, 0, 0);
            });
            waits.due("WAITS at FOLDER " + folder, x -> x.of(1, 9), folder);
            waits.due("with those further out", x -> x.of(1, 10), folder);
            waits.due("locks asked for", x -> x.count(13), 2 * (folder + 1));
            Scene went = waits.then(x -> x.end(2));
            went.due("goes on to the innermost", x -> x.of(1, 10), 6);
            went.due("not asked for again", x -> x.count(13), folder + 1 + 6);
            went.due("come back from, as many", x -> x.count(14), folder + 1 + 6);
        }
        Scene top = scene(x -> {
            x.make(Kinds.COUNTER, -1, 0);
            x.begin(0);
            x.act(1, 0, Kinds.ADD, 0, 0);
        });
        top.due("below no FOLDER one lock", x -> x.count(7), 1);
    }

    /** "TO ASK for one: held already (on that OBJECT, the same KIND and a): nothing." */
    private static void heldAlready() {
        Scene held = registers(2, 1).then(x -> x.act(1, 0, Kinds.PUT, 5, 0));
        int[][] asks = {{0, Kinds.PUT, 5, 1}, {0, Kinds.PUT, 4, 2}, {0, Kinds.PUT, 6, 2}, {0, Kinds.GET, 5, 2},
            {1, Kinds.PUT, 5, 2}, {0, Kinds.HOLD, 0, 2}, {0, Kinds.HOLD, 1, 2}};
        for (int[] ask : asks) {
            Scene next = held.then(x -> x.act(1, ask[0], ask[1], ask[2], 0));
            next.due("locks behind KIND " + ask[1] + " with " + ask[2], x -> x.count(7), ask[3]);
            next.due("asked for", x -> x.count(13), 2);
            next.then(x -> x.act(1, ask[0], ask[1], ask[2], 0)).due("the same once more", x -> x.count(7), ask[3]);
        }
        Scene b = held.then(x -> x.act(1, 0, Kinds.PUT, 5, 77));
        b.due("b does not tell", x -> x.count(7), 1);
    }

    /** "Locks belong to the LEVEL in which they were granted", also if they are asked for again further in. */
    private static void heldByALowerLevel() {
        Scene scene = registers(1, 1).then(x -> {
            x.act(1, 0, Kinds.PUT, 5, 0);
            x.nest(1);
            x.act(1, 0, Kinds.PUT, 5, 0);
            x.back(1);
        });
        scene.due("the lock is of LEVEL 0", x -> x.count(7), 1);
        Scene inner = registers(1, 1).then(x -> {
            x.nest(1);
            x.act(1, 0, Kinds.PUT, 5, 0);
            x.nest(1);
            x.act(1, 0, Kinds.PUT, 5, 0);
            x.back(1);
        });
        inner.due("the lock is of LEVEL 1", x -> x.count(7), 1);
        inner.then(x -> x.back(1)).due("and free then", x -> x.count(7), 0);
    }

    /** "Two of different TRANSACTIONS CONFLICT": none with its own. */
    private static void noneConflictsWithItself() {
        Scene one = scene(x -> {
            x.make(Kinds.FOLDER, -1, 0);
            x.make(Kinds.COUNTER, 0, 4);
            x.begin(0);
        });
        int[][] acts = {{1, Kinds.GET, 0}, {1, Kinds.ADD, 1}, {1, Kinds.BY, 2}, {1, Kinds.HOLD, 0}, {1, Kinds.HOLD, 1},
            {0, Kinds.SUM, 0}, {0, Kinds.HOLD, 1}, {1, Kinds.ADD, 3}, {0, Kinds.HOLD, 0}};
        for (int[] act : acts) {
            one.due("KIND " + act[1], x -> x.act(1, act[0], act[1], act[2], 0), 1);
            one = one.then(x -> x.act(1, act[0], act[1], act[2], 0));
        }
        one.due("no RING", x -> x.count(6), 0);
    }

    /** IS and IX beside one another, S beside IS; S against IX, X against all, both ways round. */
    private static void foldersBesideOneAnother() {
        Scene two = scene(x -> {
            x.make(Kinds.FOLDER, -1, 0);
            x.make(Kinds.REGISTER, 0, 0);
            x.make(Kinds.REGISTER, 0, 0);
            x.begin(0);
            x.begin(0);
        });
        // How to take IS, IX, S, X on the FOLDER: OBJECT (0, or one of one's own), KIND, a.
        int[][] takes = {{1, Kinds.GET, 0}, {1, Kinds.PUT, 0}, {0, Kinds.HOLD, 0}, {0, Kinds.HOLD, 1}};
        String[] beside = {"1110", "1100", "1010", "0000"};
        for (int first = 0; first < 4; first++) {
            for (int second = 0; second < 4; second++) {
                int[] own = takes[first];
                int[] others = takes[second];
                Scene taken = two.then(x -> x.act(1, own[0], own[1], own[2], 0));
                lockIs(taken, 0, 0, 1, first);
                int o = others[0] == 0 ? 0 : 2;
                taken.due("lock " + second + " beside " + first, x -> x.act(2, o, others[1], others[2], 0),
                        beside[first].charAt(second) - '0');
            }
        }
    }

    /** "of 4, 5, 6 on a SET, of 12, 13, 14 on a MAP any two with other a" */
    private static void keysBesideOneAnother() {
        int[][] sorts = {{Kinds.SET, Kinds.INSERT, 31}, {Kinds.MAP, Kinds.STORE, 7}};
        for (int[] sort : sorts) {
            Scene two = scene(x -> {
                x.make(sort[0], -1, 0);
                x.begin(0);
                x.begin(0);
                x.begin(0);
                for (int a = 0; a <= sort[2]; a++) {
                    x.act(3, 0, sort[1], a, 0);
                }
                x.end(3);
            });
            for (int kind = sort[1]; kind < sort[1] + 3; kind++) {
                for (int kind2 = sort[1]; kind2 < sort[1] + 3; kind2++) {
                    int one = kind;
                    int other = kind2;
                    int both = kind == sort[1] + 2 && kind2 == sort[1] + 2 ? 1 : 0;
                    Scene first = two.then(x -> x.act(1, 0, one, 0, 0));
                    first.due("the same a", x -> x.act(2, 0, other, 0, 0), both);
                    first.due("the next a", x -> x.act(2, 0, other, 1, 0), 1);
                    first.due("the last a", x -> x.act(2, 0, other, sort[2], 0), 1);
                }
                int one = kind;
                Scene first = two.then(x -> x.act(1, 0, one, 0, 0));
                first.due("SIZE beside it", x -> x.act(2, 0, Kinds.SIZE, 0, 0), kind == sort[1] + 2 ? 1 : 0);
                first.due("SIZE with other a", x -> x.act(2, 0, Kinds.SIZE, 9, 0), kind == sort[1] + 2 ? 1 : 0);
            }
        }
    }

    /** "on a COUNTER two ADD; on an ACCOUNT two PAY", with the same and with other a; no others. */
    private static void paysBesideOneAnother() {
        for (int sort : new int[] {Kinds.COUNTER, Kinds.ACCOUNT}) {
            int free = sort == Kinds.COUNTER ? Kinds.ADD : Kinds.PAY;
            Scene two = scene(x -> {
                x.make(sort, -1, 100);
                x.begin(0);
                x.begin(0);
            });
            for (int kind : new int[] {Kinds.ADD, Kinds.BY, Kinds.PAY, Kinds.DRAW}) {
                for (int kind2 : new int[] {Kinds.ADD, Kinds.BY, Kinds.PAY, Kinds.DRAW}) {
                    Scene first = two.then(x -> x.act(1, 0, kind, 1, 0));
                    if (first.house().save(1) == 1) {
                        int both = kind == free && kind2 == free ? 1 : 0;
                        first.due("KIND " + kind2 + " beside " + kind, x -> x.act(2, 0, kind2, 1, 0), both);
                        first.due("with another a", x -> x.act(2, 0, kind2, 2, 0), both);
                    }
                }
            }
        }
    }

    /** "18 needs then the same for ADD a on the OBJECT of its number (nothing, if that is -1, or o no SLOT)" */
    private static void bumpNeeds() {
        Scene scene = scene(x -> {
            x.make(Kinds.FOLDER, -1, 0);
            x.make(Kinds.SLOT, 0, 0);
            x.make(Kinds.FOLDER, -1, 0);
            x.make(Kinds.COUNTER, 2, 0);
            x.make(Kinds.REGISTER, 2, 3);
            x.begin(0);
        });
        scene.then(x -> x.act(1, 1, Kinds.BUMP, 1, 0)).due("of -1 two", x -> x.count(13), 2);
        scene.then(x -> x.act(1, 4, Kinds.BUMP, 1, 0)).due("of no SLOT two", x -> x.count(13), 2);
        scene.then(x -> x.act(1, 4, Kinds.BUMP, 1, 0)).due("which has no BUMP", x -> x.of(1, 8), 2);
        Scene points = scene.then(x -> {
            x.act(1, 1, Kinds.POINT, 3, 0);
            x.end(1);
            x.begin(0);
            x.begin(0);
        });
        Scene bumped = points.then(x -> x.act(2, 1, Kinds.BUMP, 6, 0));
        bumped.due("of a COUNTER four", x -> x.of(2, 10), 4);
        lockIs(bumped, 0, 0, 2, Kinds.IS);
        lockIs(bumped, 1, 0, 2, Kinds.ACT, Kinds.BUMP, 6);
        lockIs(bumped, 2, 0, 2, Kinds.IX);
        lockIs(bumped, 3, 0, 2, Kinds.ACT, Kinds.ADD, 6);
        bumped.due("another BUMP beside it", x -> x.act(3, 1, Kinds.BUMP, 1, 0), 1);
        bumped.due("GET of the SLOT beside it", x -> x.act(3, 1, Kinds.GET, 0, 0), 1);
        bumped.due("POINT not beside it", x -> x.act(3, 1, Kinds.POINT, 3, 0), 0);
        bumped.due("ADD beside it", x -> x.act(3, 3, Kinds.ADD, 1, 0), 1);
        bumped.due("GET of the COUNTER not beside it", x -> x.act(3, 3, Kinds.GET, 0, 0), 0);
        bumped.due("SUM of its FOLDER not beside it", x -> x.act(3, 2, Kinds.SUM, 0, 0), 0);
        bumped.due("SUM of the SLOT's FOLDER beside it", x -> x.act(3, 0, Kinds.SUM, 0, 0), 1);
        Scene waits = points.then(x -> {
            x.act(3, 3, Kinds.GET, 0, 0);
            x.act(2, 1, Kinds.BUMP, 6, 0);
        });
        waits.due("WAITS at the COUNTER", x -> x.of(2, 9), 3);
        waits.due("with three", x -> x.of(2, 10), 3);
        waits.then(x -> x.end(3)).due("bumped then", x -> x.object(3, 2), 6);
    }

    /** A SLOT whose number is its own: both needs are on one OBJECT. */
    private static void bumpOfItself() {
        Scene scene = scene(x -> {
            x.make(Kinds.SLOT, -1, 0);
            x.begin(0);
            x.act(1, 0, Kinds.POINT, 0, 0);
            x.end(1);
            x.begin(0);
            x.begin(0);
        });
        scene.due("has no ADD", x -> x.act(2, 0, Kinds.BUMP, 1, 0), Kinds.KIND);
        Scene other = scene.then(x -> {
            x.act(3, 0, Kinds.GET, 0, 0);
            x.act(2, 0, Kinds.BUMP, 1, 0);
        });
        other.due("its ADD WAITS for a GET", x -> x.of(2, 0), Kinds.WAITING);
        waitIs(other, 0, 0, 2, Kinds.ACT, Kinds.ADD, 1);
        lockIs(other, 0, 1, 2, Kinds.ACT, Kinds.BUMP, 1);
    }

    /** "19 needs those of 16 on o and of 15 on b, first those of the lesser number." */
    private static void moveNeeds() {
        Scene scene = scene(x -> {
            x.make(Kinds.FOLDER, -1, 0);
            x.make(Kinds.ACCOUNT, 0, 50);
            x.make(Kinds.ACCOUNT, 0, 50);
            x.begin(0);
            x.begin(0);
        });
        for (int o = 1; o <= 2; o++) {
            int from = o;
            int to = 3 - o;
            Scene moved = scene.then(x -> x.act(1, from, Kinds.MOVE, 4, to));
            lockIs(moved, 0, 0, 1, Kinds.IX);
            moved.due("one IX for both", x -> x.lock(0, 1, 0), Kinds.NONE);
            lockIs(moved, from, 0, 1, Kinds.ACT, Kinds.DRAW, 4);
            lockIs(moved, to, 0, 1, Kinds.ACT, Kinds.PAY, 4);
            moved.due("asked for, with the one held", x -> x.count(13), 4);
            moved.due("PAY beside its PAY", x -> x.act(2, to, Kinds.PAY, 1, 0), 1);
            moved.due("PAY not beside its DRAW", x -> x.act(2, from, Kinds.PAY, 1, 0), 0);
            for (int held = 1; held <= 2; held++) {
                int at = held;
                Scene waits = scene.then(x -> {
                    x.act(2, at, Kinds.GET, 0, 0);
                    x.act(1, from, Kinds.MOVE, 4, to);
                });
                waits.due("WAITS", x -> x.of(1, 9), held);
                waits.due("the greater number last", x -> x.of(1, 10), held);
                waits.then(x -> x.end(2)).due("moved then", x -> x.object(from, 2), 46);
            }
        }
        Scene both = scene.then(x -> {
            x.act(1, 2, Kinds.MOVE, 4, 1);
            x.act(2, 1, Kinds.MOVE, 4, 2);
        });
        both.due("no RING of two that move to one another", x -> x.count(6), 0);
    }

    /** "Those of TRANSACTIONS that hold any lock on that OBJECT come ahead of the others" */
    private static void holdersStandAhead() {
        Scene scene = registers(1, 6).then(x -> {
            x.act(1, 0, Kinds.GET, 0, 0);
            x.act(2, 0, Kinds.GET, 0, 0);
            x.act(3, 0, Kinds.GET, 0, 0);
            x.act(5, 0, Kinds.PUT, 5, 0);
            x.act(6, 0, Kinds.GET, 6, 0);
        });
        waitIs(scene, 0, 0, 5, Kinds.ACT, Kinds.PUT, 5);
        waitIs(scene, 0, 1, 6, Kinds.ACT, Kinds.GET, 6);
        scene.due("one that holds passes all that do not", x -> x.act(2, 0, Kinds.GET, 9, 0), 1);
        scene.due("one that holds none does not", x -> x.act(4, 0, Kinds.GET, 9, 0), 0);
        Scene ahead = scene.then(x -> x.act(1, 0, Kinds.PUT, 1, 0));
        waitIs(ahead, 0, 0, 1, Kinds.ACT, Kinds.PUT, 1);
        waitIs(ahead, 0, 1, 5, Kinds.ACT, Kinds.PUT, 5);
        waitIs(ahead, 0, 2, 6, Kinds.ACT, Kinds.GET, 6);
        Scene settled = ahead.then(x -> {
            x.end(2);
            x.end(3);
        });
        settled.due("the one that holds went first", x -> x.of(1, 5), 2);
        settled.due("the others WAIT", x -> x.count(3), 2);
        settled.then(x -> x.end(1)).due("then the next", x -> x.object(0, 2), 5);
    }

    /** "or with one that is AHEAD of it in the OBJECT's QUEUE OF WAITS" */
    private static void aheadHinders() {
        Scene scene = registers(2, 4).then(x -> {
            x.act(1, 0, Kinds.GET, 0, 0);
            x.act(2, 0, Kinds.PUT, 2, 0);
        });
        scene.due("CONFLICTS only with the one ahead", x -> x.act(3, 0, Kinds.GET, 0, 0), 0);
        scene.due("on another OBJECT none is ahead", x -> x.act(3, 1, Kinds.GET, 0, 0), 1);
        Scene gone = scene.then(x -> {
            x.act(3, 0, Kinds.GET, 0, 0);
            x.undo(2);
        });
        gone.due("goes on when the one ahead is gone", x -> x.of(3, 0), Kinds.RUNNING);
        gone.due("while the first still holds", x -> x.count(7), 2);
    }

    /** One ahead with which there is no CONFLICT does not hinder. */
    private static void aheadHindersNotWithoutConflict() {
        Scene scene = scene(x -> {
            x.make(Kinds.COUNTER, -1, 0);
            x.make(Kinds.SET, -1, 0);
            for (int t = 1; t <= 4; t++) {
                x.begin(0);
            }
            x.act(1, 1, Kinds.INSERT, 1, 0);
            x.act(2, 1, Kinds.DELETE, 1, 0);
        });
        scene.due("2 WAITS", x -> x.of(2, 0), Kinds.WAITING);
        scene.due("another number passes", x -> x.act(3, 1, Kinds.INSERT, 2, 0), 1);
        scene.due("the same number does not", x -> x.act(3, 1, Kinds.HAS, 1, 0), 0);
        Scene both = scene.then(x -> {
            x.act(3, 1, Kinds.SIZE, 0, 0);
            x.act(4, 1, Kinds.HAS, 3, 0);
        });
        both.due("SIZE WAITS", x -> x.of(3, 0), Kinds.WAITING);
        both.due("HAS of another number passes both", x -> x.of(4, 0), Kinds.RUNNING);
    }

    /** Calls that free nothing that another waits for leave all waits. */
    private static void nothingToSettle() {
        Scene scene = twoLocksAndWaits();
        Scene one = scene.then(x -> x.end(1));
        one.due("two WAIT still", x -> x.count(3), 2);
        waitIs(one, 0, 0, 3, Kinds.ACT, Kinds.PUT, 9);
        Scene two = one.then(x -> x.end(2));
        two.due("one WAITS still", x -> x.count(3), 1);
        two.due("3 went on", x -> x.object(0, 2), 9);
        two.then(x -> x.end(3)).due("none WAITS", x -> x.count(3), 0);
    }

    /** "as long as a lock that waits CONFLICTS neither ..": one END lets a row of them go on, each freeing none. */
    private static void settlesInOneCall() {
        Scene scene = scene(x -> {
            for (int o = 0; o < 3; o++) {
                x.make(Kinds.ACCOUNT, -1, 5);
            }
            for (int t = 1; t <= 5; t++) {
                x.begin(0);
            }
            x.act(1, 0, Kinds.HOLD, 1, 0);
            x.act(1, 2, Kinds.HOLD, 1, 0);
            x.act(5, 2, Kinds.PAY, 5, 0);
            x.act(4, 0, Kinds.PAY, 4, 0);
            x.act(3, 0, Kinds.DRAW, 900, 0);
            x.act(2, 0, Kinds.PAY, 2, 0);
        });
        int rows = scene.house().count(11);
        Scene behind = scene.then(x -> x.end(1));
        behind.due("the END", x -> x.row(rows, 0), 4);
        behind.due("then the least OBJECT, there the first", x -> x.row(rows + 1, 1), 4);
        behind.due("then the next OBJECT", x -> x.row(rows + 2, 1), 5);
        behind.due("3 WAITS for the PAY", x -> x.of(3, 0), Kinds.WAITING);
        behind.due("2 WAITS behind the DRAW", x -> x.of(2, 0), Kinds.WAITING);
        Scene all = behind.then(x -> x.end(4));
        all.due("3 is SHORT", x -> x.of(3, 8), 6);
        all.due("so 2 went on in the same call", x -> x.of(2, 5), 1);
        all.due("value", x -> x.object(0, 2), 11);
    }

    private static Scene ringOf(int many) {
        return registers(many, many).then(x -> {
            for (int t = 1; t <= many; t++) {
                x.act(t, t - 1, Kinds.PUT, t, 0);
            }
            for (int t = 1; t < many; t++) {
                x.act(t, t, Kinds.GET, 0, 0);
            }
        });
    }

    /** ring: "Member i of the latest RING; -1: its VICTIM. NONE." */
    private static void ringNumbers() {
        Scene none = ringOf(2);
        Scene two = none.then(x -> x.act(2, 0, Kinds.GET, 0, 0));
        for (int i : new int[] {MIN, -3, -2, -1, 0, 1, 2, 11, 12, MAX}) {
            none.due("ring(" + i + ") of none", x -> x.ring(i), Kinds.NONE);
            int want = i == -1 || i == 0 ? 2 : i == 1 ? 1 : Kinds.NONE;
            two.due("ring(" + i + ") of 2 1", x -> x.ring(i), want);
        }
        Scene later = two.then(x -> {
            x.begin(0);
            x.act(3, 1, Kinds.PUT, 3, 0);
        });
        later.due("a wait without a RING", x -> x.of(3, 0), Kinds.WAITING);
        later.due("leaves the latest RING", x -> x.ring(0), 2);
        later.due("leaves its VICTIM", x -> x.ring(-1), 2);
    }

    /** The longest RING: twelve under way at once. */
    private static void ringOfTwelve() {
        for (int many = 2; many <= 12; many++) {
            int last = many;
            Scene open = ringOf(many);
            open.due("all but one WAIT", x -> x.count(3), many - 1);
            open.due("no RING yet", x -> x.count(6), 0);
            open.due(many + " close a RING", x -> x.act(last, 0, Kinds.GET, 0, 0), 2);
            Scene closed = open.then(x -> x.act(last, 0, Kinds.GET, 0, 0));
            closed.due("one RING", x -> x.count(6), 1);
            closed.due("VICTIM", x -> x.ring(-1), many);
            closed.due("member 0", x -> x.ring(0), many);
            for (int i = 1; i < many; i++) {
                int member = i;
                closed.due("member " + i + " of " + many, x -> x.ring(member), i);
            }
            closed.due("no member more", x -> x.ring(last), Kinds.NONE);
            closed.due("WHY", x -> x.of(last, 1), 1);
            closed.due("the one before it went on", x -> x.of(last - 1, 0), Kinds.RUNNING);
            closed.due("the others WAIT", x -> x.count(3), many - 2);
        }
    }

    /** "by THE RULE: 0 the greatest number; 1 the fewest ACTS, 2 the least RANK, 3 the fewest TRIES" */
    private static void ringOfTwelveByRules() {
        Scene ranks = ringOf(12).then(x -> x.rule(2));
        ranks.due("the least RANK is that of 1", x -> x.act(12, 0, Kinds.GET, 0, 0), 1);
        ranks.then(x -> x.act(12, 0, Kinds.GET, 0, 0)).due("VICTIM", x -> x.ring(-1), 1);
        for (int few = 1; few <= 12; few++) {
            int fewest = few;
            Scene acts = registers(13, 12).then(x -> {
                for (int t = 1; t <= 12; t++) {
                    x.act(t, t - 1, Kinds.PUT, t, 0);
                    if (t != fewest) {
                        x.act(t, 12, Kinds.GET, 0, 0);
                    }
                }
                x.rule(1);
                for (int t = 1; t <= 12; t++) {
                    x.act(t, t % 12, Kinds.GET, 0, 0);
                }
            });
            acts.due("VICTIM of the fewest ACTS", x -> x.ring(-1), few);
        }
        Scene undone = registers(3, 2).then(x -> {
            x.act(1, 0, Kinds.PUT, 1, 0);
            x.act(2, 1, Kinds.PUT, 1, 0);
            x.act(1, 2, Kinds.GET, 0, 0);
            x.act(1, 2, Kinds.GET, 0, 0);
            x.act(2, 2, Kinds.GET, 0, 0);
            x.backTo(1, 1);
            x.rule(1);
            x.act(1, 1, Kinds.GET, 0, 0);
            x.act(2, 0, Kinds.GET, 0, 0);
        });
        undone.due("ACTS undone do not count", x -> x.ring(-1), 1);
    }

    /** A RING that is closed by one that stands ahead in a QUEUE OF WAITS alone. */
    private static void ringByQueue() {
        Scene scene = registers(2, 3).then(x -> {
            x.act(1, 0, Kinds.GET, 0, 0);
            x.act(3, 1, Kinds.PUT, 3, 0);
            x.act(2, 0, Kinds.PUT, 2, 0);
            x.act(3, 0, Kinds.GET, 0, 0);
        });
        scene.due("2 and 3 WAIT", x -> x.count(3), 2);
        Scene closed = scene.then(x -> x.act(1, 1, Kinds.GET, 0, 0));
        closed.due("member 0", x -> x.ring(0), 1);
        closed.due("member 1, which 1 waits for", x -> x.ring(1), 3);
        closed.due("member 2, which stands ahead of 3", x -> x.ring(2), 2);
        closed.due("no member more", x -> x.ring(3), Kinds.NONE);
        closed.due("VICTIM", x -> x.ring(-1), 3);
        closed.due("1 went on", x -> x.of(1, 0), Kinds.RUNNING);
        closed.due("2 WAITS for 1", x -> x.of(2, 0), Kinds.WAITING);
    }

    /** 1 waits for 2 to 5, each of them for 6 to 9, of which 9 alone for 10, and that for 1. */
    private static void ringAmongMany() {
        Scene scene = scene(x -> {
            x.make(Kinds.FOLDER, -1, 0);
            for (int o = 1; o <= 4; o++) {
                x.make(Kinds.REGISTER, 0, 0);
            }
            for (int o = 5; o <= 7; o++) {
                x.make(Kinds.REGISTER, -1, 0);
            }
            for (int t = 1; t <= 12; t++) {
                x.begin(0);
            }
            x.act(1, 7, Kinds.PUT, 1, 0);
            x.act(10, 6, Kinds.PUT, 1, 0);
            for (int t = 6; t <= 9; t++) {
                x.act(t, 0, Kinds.HOLD, 0, 0);
            }
            for (int t = 2; t <= 5; t++) {
                x.act(t, 5, Kinds.GET, 0, 0);
                x.act(t, t - 1, Kinds.PUT, t, 0);
            }
            x.act(9, 6, Kinds.GET, 0, 0);
            x.act(10, 7, Kinds.GET, 0, 0);
        });
        scene.due("six WAIT", x -> x.count(3), 6);
        Scene closed = scene.then(x -> x.act(1, 5, Kinds.PUT, 9, 0));
        int[] members = {1, 2, 9, 10, Kinds.NONE};
        for (int i = 0; i < members.length; i++) {
            int one = i;
            closed.due("member " + i, x -> x.ring(one), members[i]);
        }
        closed.due("one RING", x -> x.count(6), 1);
        closed.due("VICTIM", x -> x.ring(-1), 10);
        closed.due("9 went on", x -> x.of(9, 0), Kinds.RUNNING);
        closed.due("1 WAITS", x -> x.of(1, 0), Kinds.WAITING);
    }

    /** A row of waits that does not come back to its first is no RING. */
    private static void noRing() {
        Scene row = ringOf(12);
        row.due("none", x -> x.count(6), 0);
        row.due("none UNDONE", x -> x.count(5), 0);
        Scene ends = row.then(x -> x.end(12));
        ends.due("11 went on", x -> x.of(11, 0), Kinds.RUNNING);
        ends.due("10 WAITS", x -> x.of(10, 0), Kinds.WAITING);
        Scene one = registers(1, 1).then(x -> {
            x.act(1, 0, Kinds.GET, 0, 0);
            x.act(1, 0, Kinds.PUT, 1, 0);
        });
        one.due("none of one alone", x -> x.count(6), 0);
        one.due("which is DONE", x -> x.of(1, 5), 2);
    }

    /** "of like ones the greatest number", under each RULE. */
    private static void victimsOfLikeOnes() {
        for (int rule = 0; rule <= 3; rule++) {
            int now = rule;
            Scene scene = scene(x -> {
                for (int o = 0; o < 3; o++) {
                    x.make(Kinds.REGISTER, -1, 0);
                }
                for (int t = 1; t <= 3; t++) {
                    x.begin(7);
                    x.act(t, t - 1, Kinds.PUT, t, 0);
                }
                x.rule(now);
                x.act(3, 1, Kinds.GET, 0, 0);
                x.act(2, 0, Kinds.GET, 0, 0);
            });
            scene.due("1 closes the RING", x -> x.act(1, 2, Kinds.GET, 0, 0), 1);
            Scene closed = scene.then(x -> x.act(1, 2, Kinds.GET, 0, 0));
            int[] members = {1, 3, 2, Kinds.NONE};
            for (int i = 0; i < members.length; i++) {
                int one = i;
                closed.due("member " + i, x -> x.ring(one), members[i]);
            }
            closed.due("VICTIM under RULE " + rule, x -> x.ring(-1), 3);
        }
    }

    /** "As long as there is one": eleven RINGS in one call, eleven VICTIMS, the waiter goes on. */
    private static void elevenRingsInOneCall() {
        Scene scene = registers(2, 12).then(x -> {
            x.act(1, 0, Kinds.PUT, 1, 0);
            for (int t = 2; t <= 12; t++) {
                x.act(t, 1, Kinds.GET, 0, 0);
            }
            for (int t = 2; t <= 12; t++) {
                x.act(t, 0, Kinds.GET, 0, 0);
            }
        });
        scene.due("eleven WAIT", x -> x.count(3), 11);
        scene.due("the one that closes them is DONE", x -> x.act(1, 1, Kinds.PUT, 5, 0), 1);
        Scene closed = scene.then(x -> x.act(1, 1, Kinds.PUT, 5, 0));
        closed.due("RINGS", x -> x.count(6), 11);
        closed.due("UNDONE", x -> x.count(5), 11);
        closed.due("the latest one", x -> x.ring(1), 12);
        closed.due("locks", x -> x.count(7), 2);
        closed.due("none WAITS", x -> x.count(3), 0);
    }

    /** CUT: "there are no locks, waits, no RING". */
    private static void cutLeavesNone() {
        Scene scene = ringOf(3).then(x -> {
            x.act(3, 0, Kinds.GET, 0, 0);
            x.begin(0);
            x.act(4, 1, Kinds.HOLD, 1, 0);
        });
        scene.due("locks", x -> x.count(7), 3);
        scene.due("waits", x -> x.count(3), 2);
        scene.due("a RING", x -> x.ring(-1), 3);
        Scene cut = scene.then(x -> x.cut(x.count(11)));
        cut.due("no locks", x -> x.count(7), 0);
        for (int o = 0; o < 3; o++) {
            int at = o;
            cut.due("no lock on " + o, x -> x.lock(at, 0, 0), Kinds.NONE);
            cut.due("no wait on " + o, x -> x.waits(at, 0, 0), Kinds.NONE);
        }
        cut.due("no RING", x -> x.ring(0), Kinds.NONE);
        cut.due("no VICTIM", x -> x.ring(-1), Kinds.NONE);
        cut.due("RINGS in all", x -> x.count(6), 1);
        Scene next = cut.then(x -> {
            x.begin(0);
            x.act(5, 1, Kinds.PUT, 4, 0);
        });
        next.due("a lock of the next one", x -> x.lock(1, 0, 0), 5);
        next.due("alone", x -> x.count(7), 1);
    }

    /** rule: "THE RULE: what it was. BAD.", 0 to 3. */
    private static void ruleBounds() {
        Scene fresh = scene(x -> { });
        for (int r : new int[] {MIN, -1, 4, 5, MAX}) {
            fresh.refused("rule(" + r + ")", x -> x.rule(r), Kinds.BAD);
            fresh.then(x -> x.rule(3)).refused("rule(" + r + ") behind 3", x -> x.rule(r), Kinds.BAD);
        }
        for (int r = 0; r <= 3; r++) {
            int now = r;
            fresh.due("rule(" + r + ")", x -> x.rule(now), 0);
            Scene set = fresh.then(x -> x.rule(now));
            set.due("THE RULE", x -> x.count(16), r);
            set.due("what it was", x -> x.rule(1), r);
            set.then(x -> x.crash()).due("it stays over a CUT", x -> x.count(16), r);
        }
    }

    /** limit: "THE LIMIT (1 to 200): what it was. BAD." */
    private static void limitBounds() {
        Scene fresh = scene(x -> { });
        for (int n : new int[] {MIN, -1, 0, 201, 202, MAX}) {
            fresh.refused("limit(" + n + ")", x -> x.limit(n), Kinds.BAD);
            fresh.then(x -> x.limit(9)).refused("limit(" + n + ") behind 9", x -> x.limit(n), Kinds.BAD);
        }
        for (int n : new int[] {1, 2, 199, 200}) {
            fresh.due("limit(" + n + ")", x -> x.limit(n), 200);
            Scene set = fresh.then(x -> x.limit(n));
            set.due("THE LIMIT", x -> x.count(15), n);
            set.due("what it was", x -> x.limit(7), n);
            set.then(x -> x.crash()).due("it stays over a CUT", x -> x.count(15), n);
        }
    }
}
