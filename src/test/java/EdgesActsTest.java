/**
 * The edges that ACTS, their FINDINGS and BODIES and promises 13 act and 30 trace name, KIND by KIND: just inside,
 * on, just outside; what is refused changes nothing; an ACT with a FINDING leaves the OBJECT as before.
 */
public final class EdgesActsTest {
    private static final Check CHECK = new Check("EdgesActsTest");
    private static final int MIN = Integer.MIN_VALUE, MAX = Integer.MAX_VALUE, MOST = 1000000000;
    private static final String[] HAS = {"1267", "16", "16", "2", "3", "3", "3", "345", "4", "4", "4", "4", "5", "5",
        "5", "6", "6", "7", "7", "6", "0", "01234567"};
    // OBJECT 0 is the one on which a test acts; these stand beside it.
    private static final int COUNTER = 1, ACCOUNT = 2, LAST = 2;

    public static void main(String[] args) {
        get();
        addOnACounter();
        addOnAnAccount();
        byOnACounter();
        byOnAnAccount();
        put();
        setNumbers();
        setAnswers();
        sizes();
        enter();
        leave();
        at();
        first();
        mapKeys();
        mapAnswers();
        amounts();
        pay();
        draw();
        point();
        bumpTarget();
        bumpAmounts();
        moveTarget();
        moveAmounts();
        sum();
        hold();
        kindOfNoSort();
        kindNumbers();
        transactionAndObjectNumbers();
        states();
        limitOfOne();
        limitOfTwoHundred();
        limitLowered();
        asManyAsCanBeAsked();
        findingFreesLocks();
        findingOfOneThatWaited();
        answersStay();
        traceOfSixteen();
        traceNumbers();
        CHECK.close();
    }

    private static int[] a(int... act) {
        return act;
    }

    /** OBJECT 0 of a SORT made with v, COUNTER 1 with 5, ACCOUNT 2 with 5, one begun, with ACTS on OBJECT 0. */
    private static Scene with(int sort, int v, int[]... acts) {
        return new Scene(CHECK, x -> {
            x.make(sort, -1, v);
            x.make(Kinds.COUNTER, -1, 5);
            x.make(Kinds.ACCOUNT, -1, 5);
            x.begin(0);
            for (int[] act : acts) {
                CHECK.due("act before", x.act(1, 0, act[0], act[1], act[2]), 1);
            }
        });
    }

    private static String name(int[] act) {
        return "KIND " + act[0] + " with " + act[1] + ", " + act[2];
    }

    /** The ACT on OBJECT 0 is DONE: its ANSWER, the DIGEST that it leaves, its BODIES. */
    private static void done(Scene scene, int[] act, int answer, int digest, int... bodies) {
        HoldHouse x = scene.house();
        int acts = x.save(1);
        int rows = x.count(11);
        int kept = x.object(0, 3);
        CHECK.due(name(act) + " is DONE", x.act(1, 0, act[0], act[1], act[2]), 1);
        CHECK.due(name(act) + " answers", x.of(1, 7), answer);
        CHECK.due(name(act) + " has no FINDING", x.of(1, 8), 0);
        CHECK.due(name(act) + " leaves", x.object(0, 2), digest);
        CHECK.due(name(act) + " leaves THE KEPT", x.object(0, 3), kept);
        CHECK.due(name(act) + " is an ACT more", x.save(1), acts + 1);
        CHECK.due(name(act) + " has a row", x.row(rows, 6), answer);
        traced(x, name(act), bodies);
    }

    /** The ACT on OBJECT 0 has a FINDING, and all OBJECTS, rows, locks are as before. */
    private static void found(Scene scene, int[] act, int how, int... bodies) {
        HoldHouse x = scene.house();
        int[] before = {x.digest(), x.object(0, 3), x.count(11), x.count(7), x.save(1), x.of(1, 7), x.count(9)};
        int findings = x.count(10);
        int asked = x.of(1, 6);
        CHECK.due(name(act), x.act(1, 0, act[0], act[1], act[2]), how);
        int[] behind = {x.digest(), x.object(0, 3), x.count(11), x.count(7), x.save(1), x.of(1, 7), x.count(9)};
        for (int i = 0; i < before.length; i++) {
            CHECK.due(name(act) + " leaves thing " + i, behind[i], before[i]);
        }
        CHECK.due(name(act) + " has its FINDING", x.of(1, 8), -10 - how);
        CHECK.due(name(act) + " is counted", x.count(10), findings + 1);
        CHECK.due(name(act) + " was asked", x.of(1, 6), asked + 1);
        CHECK.due(name(act) + " leaves it RUNNING", x.of(1, 0), Kinds.RUNNING);
        traced(x, name(act), bodies);
    }

    private static void traced(HoldHouse x, String name, int... bodies) {
        for (int i = 0; i < bodies.length; i++) {
            CHECK.due(name + " BODY " + i, x.trace(i), bodies[i]);
        }
        CHECK.due(name + " has no more BODIES", x.trace(bodies.length), Kinds.NONE);
    }

    private static void bad(Scene scene, int[] act) {
        scene.refused(name(act), x -> x.act(1, 0, act[0], act[1], act[2]), Kinds.BAD);
    }

    /** "0 GET (1 2 6 7): the VALUE, number." */
    private static void get() {
        for (int v : new int[] {MIN, -1, 0, 1, MAX}) {
            done(with(Kinds.COUNTER, v), a(Kinds.GET, 0, 0), v, v, 1);
            done(with(Kinds.REGISTER, v), a(Kinds.GET, MAX, MIN), v, v, 1);
        }
        for (int v : new int[] {0, 1, MOST}) {
            done(with(Kinds.ACCOUNT, v), a(Kinds.GET, MIN, MAX), v, v, 1);
        }
        done(with(Kinds.SLOT, 4), a(Kinds.GET, 0, 0), -1, -1, 2);
        done(with(Kinds.SLOT, 4, a(Kinds.POINT, LAST, 0)), a(Kinds.GET, 0, 0), LAST, LAST, 2);
    }

    /** "1 ADD a (1 ..): a; the VALUE is a more (1: going round)" */
    private static void addOnACounter() {
        int[][] sums = {{0, 0, 0}, {5, -5, 0}, {5, -6, -1}, {MAX - 1, 1, MAX}, {MAX, 1, MIN}, {MIN + 1, -1, MIN},
            {MIN, -1, MAX}, {MAX, MAX, -2}, {MIN, MIN, 0}, {-1, MIN, MAX}, {MOST, 1, MOST + 1}};
        for (int[] one : sums) {
            done(with(Kinds.COUNTER, one[0]), a(Kinds.ADD, one[1], 0), one[1], one[2], 3);
        }
    }

    /** "(6: 6 SHORT below 0, 7 FULL above 1000000000)" */
    private static void addOnAnAccount() {
        int[][] sums = {{0, 0}, {0, 1}, {0, MOST - 1}, {0, MOST}, {1, -1}, {5, -4}, {5, -5}, {5, MOST - 6},
            {5, MOST - 5}, {MOST, 0}, {MOST, -1}, {MOST, -MOST}};
        for (int[] one : sums) {
            done(with(Kinds.ACCOUNT, one[0]), a(Kinds.ADD, one[1], 0), one[1], one[0] + one[1], 4, 3);
        }
        int[][] tooLittle = {{0, -1}, {0, MIN}, {5, -6}, {5, MIN}, {MOST, -MOST - 1}, {MOST, MIN}};
        for (int[] one : tooLittle) {
            found(with(Kinds.ACCOUNT, one[0]), a(Kinds.ADD, one[1], 0), Kinds.SHORT, 4);
        }
        int[][] tooMuch = {{0, MOST + 1}, {0, MAX}, {5, MOST - 4}, {MOST, 1}, {MOST, MAX}};
        for (int[] one : tooMuch) {
            found(with(Kinds.ACCOUNT, one[0]), a(Kinds.ADD, one[1], 0), Kinds.FULL_THERE, 4);
        }
    }

    /** "2 BY a: the VALUE divided by a, cut (the least int by -1: going round), which it is then; 3 ZERO: a is 0" */
    private static void byOnACounter() {
        int[][] parts = {{7, 2, 3}, {-7, 2, -3}, {7, -2, -3}, {-7, -2, 3}, {1, 2, 0}, {-1, 2, 0}, {0, 5, 0}, {0, -1, 0},
            {5, 1, 5}, {5, -1, -5}, {MIN, 1, MIN}, {MIN, -1, MIN}, {MIN + 1, -1, MAX}, {MAX, -1, MIN + 1},
            {MIN, MIN, 1}, {MAX, MIN, 0}, {MIN, MAX, -1}, {MAX, MAX, 1}};
        for (int[] one : parts) {
            done(with(Kinds.COUNTER, one[0]), a(Kinds.BY, one[1], 0), one[2], one[2], 5);
        }
        for (int v : new int[] {MIN, -1, 0, 1, MAX}) {
            found(with(Kinds.COUNTER, v), a(Kinds.BY, 0, 0), Kinds.ZERO, 5);
        }
    }

    /** "(6: 6 SHORT, if a is below 0, ahead of that)"; its BODIES "25, then 5, but not when SHORT". */
    private static void byOnAnAccount() {
        int[][] parts = {{7, 2, 3}, {7, 1, 7}, {0, 1, 0}, {MOST, 1, MOST}, {MOST, MOST, 1}, {MOST, MOST + 1, 0},
            {MOST, MAX, 0}};
        for (int[] one : parts) {
            done(with(Kinds.ACCOUNT, one[0]), a(Kinds.BY, one[1], 0), one[2], one[2], 25, 5);
        }
        for (int v : new int[] {0, 1, MOST}) {
            found(with(Kinds.ACCOUNT, v), a(Kinds.BY, 0, 0), Kinds.ZERO, 25, 5);
            found(with(Kinds.ACCOUNT, v), a(Kinds.BY, -1, 0), Kinds.SHORT, 25);
            found(with(Kinds.ACCOUNT, v), a(Kinds.BY, MIN, 0), Kinds.SHORT, 25);
        }
    }

    /** "3 PUT a (2): the VALUE before; it is a then." */
    private static void put() {
        for (int v : new int[] {MIN, -1, 0, MAX}) {
            done(with(Kinds.REGISTER, v), a(Kinds.PUT, MAX, 0), v, MAX, 6);
            done(with(Kinds.REGISTER, v), a(Kinds.PUT, MIN, 0), v, MIN, 6);
            done(with(Kinds.REGISTER, v), a(Kinds.PUT, v, 0), v, v, 6);
        }
    }

    /** "3 SET: numbers 0 to 31"; act: "BAD: .. a of 4, 5, 6 (0 to 31)", on an OBJECT of another SORT too. */
    private static void setNumbers() {
        for (int kind = Kinds.INSERT; kind <= Kinds.HAS; kind++) {
            for (int n : new int[] {MIN, -1, 32, 33, 63, MAX}) {
                bad(with(Kinds.SET, 0), a(kind, n, 0));
                bad(with(Kinds.COUNTER, 0), a(kind, n, 0));
            }
            for (int n : new int[] {0, 1, 30, 31}) {
                found(with(Kinds.COUNTER, 0), a(kind, n, 0), Kinds.KIND);
            }
        }
    }

    /** "4 INSERT a, 5 DELETE a (3): 1, if a was not (was) there, else 0. 6 HAS a (3): 1 or 0." */
    private static void setAnswers() {
        for (int n = 0; n < 32; n++) {
            Scene none = with(Kinds.SET, 0);
            Scene there = with(Kinds.SET, 0, a(Kinds.INSERT, n, 0));
            Scene gone = with(Kinds.SET, 0, a(Kinds.INSERT, n, 0), a(Kinds.DELETE, n, 0));
            done(none, a(Kinds.INSERT, n, 0), 1, 1 << n, 7);
            done(there, a(Kinds.INSERT, n, 0), 0, 1 << n, 7);
            done(none, a(Kinds.DELETE, n, 0), 0, 0, 8);
            done(there, a(Kinds.DELETE, n, 0), 1, 0, 8);
            done(none, a(Kinds.HAS, n, 0), 0, 0, 9);
            done(there, a(Kinds.HAS, n, 0), 1, 1 << n, 9);
            done(gone, a(Kinds.HAS, n, 0), 0, 0, 9);
            done(there, a(Kinds.HAS, (n + 1) % 32, 0), 0, 1 << n, 9);
        }
    }

    private static int[][] many(int kind, int many) {
        int[][] acts = new int[many][];
        for (int i = 0; i < many; i++) {
            acts[i] = a(kind, i, 100 + i);
        }
        return acts;
    }

    /** "7 SIZE (3 4 5): how many it has.", from empty to full. */
    private static void sizes() {
        for (int many : new int[] {0, 1, 31, 32}) {
            Scene set = with(Kinds.SET, 0, many(Kinds.INSERT, many));
            done(set, a(Kinds.SIZE, 0, 0), many, set.house().object(0, 2), 11);
        }
        for (int many : new int[] {0, 1, 7, 8}) {
            Scene queue = with(Kinds.QUEUE, 0, many(Kinds.ENTER, many));
            done(queue, a(Kinds.SIZE, MIN, 0), many, queue.house().object(0, 2), 10);
            Scene map = with(Kinds.MAP, 0, many(Kinds.STORE, many));
            done(map, a(Kinds.SIZE, MAX, 0), many, map.house().object(0, 2), 10);
        }
    }

    /** "8 ENTER a (4): behind all: its place; 7 FULL: there are 8."; "up to 8 ints in a row, places from 0". */
    private static void enter() {
        for (int many = 0; many < 8; many++) {
            Scene queue = with(Kinds.QUEUE, 0, many(Kinds.ENTER, many));
            int digest = queue.house().object(0, 2);
            done(queue, a(Kinds.ENTER, MAX, 0), many, 31 * digest + MAX, 12);
            done(queue, a(Kinds.ENTER, MIN, 0), many, 31 * digest + MIN, 12);
        }
        Scene full = with(Kinds.QUEUE, 0, many(Kinds.ENTER, 8));
        found(full, a(Kinds.ENTER, 0, 0), Kinds.FULL_THERE, 12);
        found(full, a(Kinds.ENTER, MAX, 0), Kinds.FULL_THERE, 12);
        Scene room = full.then(x -> x.act(1, 0, Kinds.LEAVE, 0, 0));
        done(room, a(Kinds.ENTER, 9, 0), 7, 31 * room.house().object(0, 2) + 9, 12);
    }

    /** "9 LEAVE (4): the first one goes: it; 8 EMPTY." */
    private static void leave() {
        found(with(Kinds.QUEUE, 0), a(Kinds.LEAVE, 0, 0), Kinds.EMPTY, 13);
        done(with(Kinds.QUEUE, 0, a(Kinds.ENTER, MIN, 0)), a(Kinds.LEAVE, 0, 0), MIN, 17, 13);
        Scene two = with(Kinds.QUEUE, 0, a(Kinds.ENTER, 4, 0), a(Kinds.ENTER, 6, 0));
        done(two, a(Kinds.LEAVE, 5, 5), 4, 17 * 31 + 6, 13);
        found(with(Kinds.QUEUE, 0, a(Kinds.ENTER, 4, 0), a(Kinds.LEAVE, 0, 0)), a(Kinds.LEAVE, 0, 0), Kinds.EMPTY, 13);
        Scene left = with(Kinds.QUEUE, 0, many(Kinds.ENTER, 8));
        for (int i = 0; i < 8; i++) {
            int d = 17;
            for (int rest = i + 1; rest < 8; rest++) {
                d = 31 * d + rest;
            }
            done(left, a(Kinds.LEAVE, 0, 0), i, d, 13);
            left = left.then(x -> x.act(1, 0, Kinds.LEAVE, 0, 0));
        }
        found(left, a(Kinds.LEAVE, 0, 0), Kinds.EMPTY, 13);
    }

    /** "10 AT a (4): what is at place a; 4 INDEX." */
    private static void at() {
        for (int many : new int[] {0, 1, 3, 8}) {
            Scene queue = with(Kinds.QUEUE, 0, many(Kinds.ENTER, many));
            for (int place : new int[] {MIN, -1, many, many + 1, 8, 64, 65, MAX}) {
                found(queue, a(Kinds.AT, place, 0), Kinds.INDEX, 14);
            }
            for (int place = 0; place < many; place++) {
                done(queue, a(Kinds.AT, place, 0), place, queue.house().object(0, 2), 14);
            }
        }
    }

    /** "11 FIRST a (4): the sum of the first a (going round); 5 SIZE: a is below 0; 4 INDEX"; "BAD: 11 (above 64)". */
    private static void first() {
        int[] ints = {MAX, 1, MIN, -1, 100, 7, MAX, MAX};
        Scene queue = with(Kinds.QUEUE, 0);
        long sum = 0;
        for (int many = 0; many <= 8; many++) {
            int digest = queue.house().object(0, 2);
            done(queue, a(Kinds.FIRST, many, 0), (int) sum, digest, 15);
            done(queue, a(Kinds.FIRST, 0, 0), 0, digest, 15);
            for (int tooMany : new int[] {many + 1, 9, 63, 64}) {
                found(queue, a(Kinds.FIRST, tooMany, 0), Kinds.INDEX, 15);
            }
            for (int below : new int[] {MIN, -2, -1}) {
                found(queue, a(Kinds.FIRST, below, 0), Kinds.SIZE_WRONG, 15);
            }
            for (int above : new int[] {65, 66, MAX}) {
                bad(queue, a(Kinds.FIRST, above, 0));
            }
            int next = ints[many % 8];
            sum += next;
            queue = many == 8 ? queue : queue.then(x -> x.act(1, 0, Kinds.ENTER, next, 0));
        }
        bad(with(Kinds.COUNTER, 0), a(Kinds.FIRST, 65, 0));
        found(with(Kinds.COUNTER, 0), a(Kinds.FIRST, 64, 0), Kinds.KIND);
        found(with(Kinds.COUNTER, 0), a(Kinds.FIRST, -1, 0), Kinds.KIND);
    }

    /** "5 MAP: for each KEY 0 to 7"; act: "BAD: .. a of .. 12, 13, 14 (0 to 7)", on an OBJECT of another SORT too. */
    private static void mapKeys() {
        for (int kind = Kinds.STORE; kind <= Kinds.LOOK; kind++) {
            for (int key : new int[] {MIN, -1, 8, 9, 31, MAX}) {
                bad(with(Kinds.MAP, 0), a(kind, key, 0));
                bad(with(Kinds.SLOT, 0), a(kind, key, 0));
            }
            found(with(Kinds.SLOT, 0), a(kind, 0, 0), Kinds.KIND);
            found(with(Kinds.SLOT, 0), a(kind, 7, 0), Kinds.KIND);
        }
    }

    /** "12 STORE a b (5): .. what was there, 0 if none. 13 DROP a, 14 LOOK a (5): what is there; 1 NULL: none." */
    private static void mapAnswers() {
        int none = with(Kinds.MAP, 0).house().object(0, 2);
        for (int k = 0; k < 8; k++) {
            int key = k;
            found(with(Kinds.MAP, 0), a(Kinds.LOOK, key, 0), Kinds.NULL, 18);
            found(with(Kinds.MAP, 0), a(Kinds.DROP, key, 0), Kinds.NULL, 17);
            int weight = 1;
            for (int behind = key; behind < 7; behind++) {
                weight *= 31;
            }
            for (int v : new int[] {MIN, -1, 0, 1, MAX}) {
                int digest = none + weight * (v + 1);
                Scene there = with(Kinds.MAP, 0, a(Kinds.STORE, key, v));
                done(with(Kinds.MAP, 0), a(Kinds.STORE, key, v), 0, digest, 16);
                done(there, a(Kinds.STORE, key, 3), v, none + weight * 4, 16);
                done(there, a(Kinds.LOOK, key, 0), v, digest, 18);
                done(there, a(Kinds.DROP, key, 0), v, none, 17);
                found(there, a(Kinds.LOOK, (key + 1) % 8, 0), Kinds.NULL, 18);
                found(there, a(Kinds.DROP, (key + 7) % 8, 0), Kinds.NULL, 17);
                found(there.then(x -> x.act(1, 0, Kinds.DROP, key, 0)), a(Kinds.DROP, key, 0), Kinds.NULL, 17);
            }
        }
    }

    /** act: "BAD: .. a of .. 15, 16, 19 (0 to 1000)", on an OBJECT of another SORT too. */
    private static void amounts() {
        for (int kind : new int[] {Kinds.PAY, Kinds.DRAW, Kinds.MOVE}) {
            for (int amount : new int[] {MIN, -1, 1001, 1002, MAX}) {
                bad(with(Kinds.ACCOUNT, 5000), a(kind, amount, ACCOUNT));
                bad(with(Kinds.COUNTER, 5000), a(kind, amount, ACCOUNT));
            }
            for (int amount : new int[] {0, 1, 999, 1000}) {
                Scene scene = with(Kinds.ACCOUNT, 5000);
                scene.due(name(a(kind, amount, 0)), x -> x.act(1, 0, kind, amount, ACCOUNT), 1);
                found(with(Kinds.COUNTER, 5000), a(kind, amount, ACCOUNT), Kinds.KIND);
            }
        }
    }

    /** "15 PAY a (6): as ADD a." */
    private static void pay() {
        done(with(Kinds.ACCOUNT, 0), a(Kinds.PAY, 0, 0), 0, 0, 19, 4, 3);
        done(with(Kinds.ACCOUNT, 0), a(Kinds.PAY, 1000, 0), 1000, 1000, 19, 4, 3);
        done(with(Kinds.ACCOUNT, MOST - 1001), a(Kinds.PAY, 1000, 0), 1000, MOST - 1, 19, 4, 3);
        done(with(Kinds.ACCOUNT, MOST - 1000), a(Kinds.PAY, 1000, 0), 1000, MOST, 19, 4, 3);
        found(with(Kinds.ACCOUNT, MOST - 999), a(Kinds.PAY, 1000, 0), Kinds.FULL_THERE, 19, 4);
        done(with(Kinds.ACCOUNT, MOST), a(Kinds.PAY, 0, 0), 0, MOST, 19, 4, 3);
        found(with(Kinds.ACCOUNT, MOST), a(Kinds.PAY, 1, 0), Kinds.FULL_THERE, 19, 4);
    }

    /** "16 DRAW a (6): a; as ADD of -a." */
    private static void draw() {
        done(with(Kinds.ACCOUNT, 1001), a(Kinds.DRAW, 1000, 0), 1000, 1, 20, 4, 3);
        done(with(Kinds.ACCOUNT, 1000), a(Kinds.DRAW, 1000, 0), 1000, 0, 20, 4, 3);
        found(with(Kinds.ACCOUNT, 999), a(Kinds.DRAW, 1000, 0), Kinds.SHORT, 20, 4);
        done(with(Kinds.ACCOUNT, 0), a(Kinds.DRAW, 0, 0), 0, 0, 20, 4, 3);
        found(with(Kinds.ACCOUNT, 0), a(Kinds.DRAW, 1, 0), Kinds.SHORT, 20, 4);
        done(with(Kinds.ACCOUNT, MOST), a(Kinds.DRAW, 1, 0), 1, MOST - 1, 20, 4, 3);
    }

    /** "17 POINT a (7): its number before; a then."; "BAD: .. 17 (-1, OBJECTS)", on an OBJECT of another SORT too. */
    private static void point() {
        for (int o : new int[] {-1, 0, 1, LAST}) {
            done(with(Kinds.SLOT, 0), a(Kinds.POINT, o, 0), -1, o, 21);
            done(with(Kinds.SLOT, 0, a(Kinds.POINT, o, 0)), a(Kinds.POINT, -1, 0), o, -1, 21);
            found(with(Kinds.SET, 0), a(Kinds.POINT, o, 0), Kinds.KIND);
        }
        for (int o : new int[] {MIN, -2, LAST + 1, LAST + 2, 39, 40, MAX}) {
            bad(with(Kinds.SLOT, 0), a(Kinds.POINT, o, 0));
            bad(with(Kinds.SET, 0), a(Kinds.POINT, o, 0));
        }
        Scene forty = new Scene(CHECK, x -> {
            for (int o = 0; o < 40; o++) {
                x.make(Kinds.SLOT, -1, 0);
            }
            x.begin(0);
        });
        done(forty, a(Kinds.POINT, 39, 0), -1, 39, 21);
        bad(forty, a(Kinds.POINT, 40, 0));
    }

    /** "18 BUMP a (7): what ADD a on the OBJECT of its number tells; 1 NULL: it is -1."; "KIND: .. behind 22". */
    private static void bumpTarget() {
        found(with(Kinds.SLOT, 0), a(Kinds.BUMP, 1, 0), Kinds.NULL, 22);
        found(with(Kinds.SLOT, 0, a(Kinds.POINT, 1, 0), a(Kinds.POINT, -1, 0)), a(Kinds.BUMP, 1, 0), Kinds.NULL, 22);
        found(with(Kinds.SLOT, 0, a(Kinds.POINT, 0, 0)), a(Kinds.BUMP, 1, 0), Kinds.KIND, 22);
        for (int sort = 0; sort < 8; sort++) {
            int one = sort;
            Scene scene = new Scene(CHECK, x -> {
                x.make(Kinds.SLOT, -1, 0);
                x.make(one, -1, 5);
                x.begin(0);
                x.act(1, 0, Kinds.POINT, 1, 0);
            });
            if (sort == Kinds.COUNTER || sort == Kinds.ACCOUNT) {
                scene.then(x -> x.act(1, 0, Kinds.BUMP, 2, 0)).due("BUMP of SORT " + sort, x -> x.object(1, 2), 7);
            } else {
                found(scene, a(Kinds.BUMP, 1, 0), Kinds.KIND, 22);
            }
        }
    }

    /** The ADD of a BUMP goes round, is SHORT or FULL as any ADD; its a has no bounds. */
    private static void bumpAmounts() {
        Scene counter = with(Kinds.SLOT, 0, a(Kinds.POINT, COUNTER, 0));
        for (int amount : new int[] {MIN, -6, -5, 0, 1, 1001, MAX}) {
            done(counter, a(Kinds.BUMP, amount, 0), amount, COUNTER, 22, 3);
            counter.then(x -> x.act(1, 0, Kinds.BUMP, amount, 0)).due("COUNTER bumped", x -> x.object(COUNTER, 2),
                    5 + amount);
        }
        Scene account = with(Kinds.SLOT, 0, a(Kinds.POINT, ACCOUNT, 0));
        for (int amount : new int[] {-5, -4, 0, MOST - 6, MOST - 5}) {
            done(account, a(Kinds.BUMP, amount, 0), amount, ACCOUNT, 22, 4, 3);
            account.then(x -> x.act(1, 0, Kinds.BUMP, amount, 0)).due("ACCOUNT bumped", x -> x.object(ACCOUNT, 2),
                    5 + amount);
        }
        found(account, a(Kinds.BUMP, -6, 0), Kinds.SHORT, 22, 4);
        found(account, a(Kinds.BUMP, MIN, 0), Kinds.SHORT, 22, 4);
        found(account, a(Kinds.BUMP, MOST - 4, 0), Kinds.FULL_THERE, 22, 4);
        found(account, a(Kinds.BUMP, MAX, 0), Kinds.FULL_THERE, 22, 4);
    }

    /** act: "BAD: .. b of 19 (an OBJECT, not o)", on an OBJECT of another SORT too; "KIND of b: behind those of 16". */
    private static void moveTarget() {
        for (int b : new int[] {MIN, -1, 0, LAST + 1, 39, 40, MAX}) {
            bad(with(Kinds.ACCOUNT, 50), a(Kinds.MOVE, 1, b));
            bad(with(Kinds.SET, 50), a(Kinds.MOVE, 1, b));
        }
        for (int sort = 0; sort < 8; sort++) {
            int one = sort;
            Scene scene = new Scene(CHECK, x -> {
                x.make(Kinds.ACCOUNT, -1, 5);
                x.make(one, -1, 5);
                x.begin(0);
            });
            if (sort == Kinds.ACCOUNT) {
                done(scene, a(Kinds.MOVE, 5, 1), 5, 0, 23, 20, 4, 3, 19, 4, 3);
            } else {
                found(scene, a(Kinds.MOVE, 5, 1), Kinds.KIND, 23, 20, 4, 3);
            }
            found(scene, a(Kinds.MOVE, 6, 1), Kinds.SHORT, 23, 20, 4);
        }
        found(with(Kinds.REGISTER, 50), a(Kinds.MOVE, 1, ACCOUNT), Kinds.KIND);
    }

    /** "19 MOVE a b (6): a; DRAW a, then PAY a on the OBJECT b (a FINDING there is that of this ACT)." */
    private static void moveAmounts() {
        done(with(Kinds.ACCOUNT, 1000), a(Kinds.MOVE, 1000, ACCOUNT), 1000, 0, 23, 20, 4, 3, 19, 4, 3);
        found(with(Kinds.ACCOUNT, 999), a(Kinds.MOVE, 1000, ACCOUNT), Kinds.SHORT, 23, 20, 4);
        done(with(Kinds.ACCOUNT, 0), a(Kinds.MOVE, 0, ACCOUNT), 0, 0, 23, 20, 4, 3, 19, 4, 3);
        found(with(Kinds.ACCOUNT, 0), a(Kinds.MOVE, 1, ACCOUNT), Kinds.SHORT, 23, 20, 4);
        for (int room = 998; room <= 1001; room++) {
            int there = MOST - room;
            Scene scene = new Scene(CHECK, x -> {
                x.make(Kinds.ACCOUNT, -1, 1500);
                x.make(Kinds.ACCOUNT, -1, there);
                x.begin(0);
            });
            if (room >= 1000) {
                done(scene, a(Kinds.MOVE, 1000, 1), 1000, 500, 23, 20, 4, 3, 19, 4, 3);
                scene.then(x -> x.act(1, 0, Kinds.MOVE, 1000, 1)).due("moved to", x -> x.object(1, 2), there + 1000);
            } else {
                found(scene, a(Kinds.MOVE, 1000, 1), Kinds.FULL_THERE, 23, 20, 4, 3, 19, 4);
            }
        }
    }

    /** "20 SUM (0): the VALUES of all 1, 2, 6 below it, at any depth (going round)." */
    private static void sum() {
        done(with(Kinds.FOLDER, 0), a(Kinds.SUM, 0, 0), 0, 0, 24);
        Scene deep = new Scene(CHECK, x -> {
            for (int depth = 0; depth < 5; depth++) {
                x.make(Kinds.FOLDER, depth - 1, 0);
            }
            x.make(Kinds.COUNTER, 4, MAX);
            x.make(Kinds.REGISTER, 4, 1);
            x.make(Kinds.ACCOUNT, 0, 9);
            for (int sort : new int[] {Kinds.SET, Kinds.QUEUE, Kinds.MAP, Kinds.SLOT}) {
                x.make(sort, 0, 1000);
            }
            x.make(Kinds.COUNTER, -1, 500);
            x.begin(0);
        });
        done(deep, a(Kinds.SUM, MIN, MAX), MIN + 9, 0, 24, 1, 1, 1);
        int[] sums = {MIN + 9, MIN, MIN, MIN, MIN};
        for (int folder = 0; folder < 5; folder++) {
            int one = folder;
            Scene summed = deep.then(x -> x.act(1, one, Kinds.SUM, 0, 0));
            summed.due("SUM of FOLDER " + folder, x -> x.of(1, 7), sums[folder]);
        }
        Scene beside = new Scene(CHECK, x -> {
            x.make(Kinds.FOLDER, -1, 0);
            x.make(Kinds.FOLDER, -1, 0);
            x.make(Kinds.COUNTER, 1, 3);
            x.begin(0);
        });
        done(beside, a(Kinds.SUM, 0, 0), 0, 0, 24);
    }

    /** "21 HOLD a (all): a."; act: "BAD: .. 21 (0, 1)". */
    private static void hold() {
        for (int sort = 0; sort < 8; sort++) {
            Scene scene = with(sort, 5);
            int digest = scene.house().object(0, 2);
            done(scene, a(Kinds.HOLD, 0, 0), 0, digest);
            done(scene, a(Kinds.HOLD, 1, 0), 1, digest);
            for (int wrong : new int[] {MIN, -1, 2, MAX}) {
                bad(scene, a(Kinds.HOLD, wrong, 0));
            }
        }
    }

    /** "SORTS that have it in brackets; else the FINDING is 2 KIND"; of its BODIES "KIND: none". */
    private static void kindOfNoSort() {
        for (int kind = 0; kind < 22; kind++) {
            for (int sort = 0; sort < 8; sort++) {
                Scene scene = with(sort, 5);
                int one = kind;
                if (HAS[kind].indexOf('0' + sort) < 0) {
                    found(scene, a(kind, 0, ACCOUNT), Kinds.KIND);
                } else {
                    HoldHouse x = scene.house();
                    CHECK.isTrue("KIND " + kind + " of SORT " + sort, x.act(1, 0, one, 0, ACCOUNT) != Kinds.KIND);
                }
            }
        }
    }

    /** act: "BAD: .. KIND", 0 to 21. */
    private static void kindNumbers() {
        for (int kind : new int[] {MIN, -1, 22, 23, 32, 64, MAX}) {
            bad(with(Kinds.COUNTER, 5), a(kind, 0, 0));
        }
        done(with(Kinds.COUNTER, 5), a(0, 0, 0), 5, 5, 1);
        done(with(Kinds.COUNTER, 5), a(21, 1, 0), 1, 5);
    }

    /** act: "BAD: t, o". */
    private static void transactionAndObjectNumbers() {
        Scene scene = with(Kinds.COUNTER, 5).then(x -> x.begin(0));
        for (int t : new int[] {MIN, -1, 0, 3, 4, 400, 401, MAX}) {
            scene.refused("act of " + t, x -> x.act(t, 0, Kinds.GET, 0, 0), Kinds.BAD);
        }
        for (int o : new int[] {MIN, -1, 3, 4, 39, 40, MAX}) {
            scene.refused("act on " + o, x -> x.act(1, o, Kinds.GET, 0, 0), Kinds.BAD);
        }
        scene.due("act of the first on the first", x -> x.act(1, 0, Kinds.GET, 0, 0), 1);
        scene.due("act of the last on the last", x -> x.act(2, LAST, Kinds.GET, 0, 0), 1);
    }

    /** act: "STATE": it is not RUNNING; BAD comes ahead of it, it comes ahead of LIMIT. */
    private static void states() {
        Scene four = with(Kinds.COUNTER, 5).then(x -> {
            x.begin(0);
            x.begin(0);
            x.begin(0);
            x.act(2, 0, Kinds.ADD, 1, 0);
            x.act(1, 0, Kinds.GET, 0, 0);
            x.undo(3);
            x.end(4);
            x.limit(1);
        });
        int[] states = {Kinds.WAITING, Kinds.RUNNING, Kinds.UNDONE, Kinds.ENDED};
        for (int t = 1; t <= 4; t++) {
            int one = t;
            four.due("state of " + t, x -> x.of(one, 0), states[t - 1]);
            four.refused("bad act of " + t, x -> x.act(one, 3, Kinds.GET, 0, 0), Kinds.BAD);
            if (t != 2) {
                four.refused("act of " + t, x -> x.act(one, 1, Kinds.GET, 0, 0), Kinds.STATE);
            }
        }
    }

    private static void askAdds(HoldHouse x, int t, int many) {
        for (int i = 0; i < many; i++) {
            x.act(t, COUNTER, Kinds.ADD, 1, 0);
        }
    }

    /** "LIMIT: it would ask for more ACTS than that: it does not ask, but is UNDONE.", the least LIMIT. */
    private static void limitOfOne() {
        Scene one = with(Kinds.COUNTER, 5).then(x -> x.limit(1));
        one.due("the first ACT", x -> x.act(1, COUNTER, Kinds.ADD, 1, 0), 1);
        Scene two = one.then(x -> askAdds(x, 1, 1));
        two.due("the second ACT", x -> x.act(1, COUNTER, Kinds.ADD, 1, 0), 2);
        Scene gone = one.then(x -> askAdds(x, 1, 2));
        gone.due("its state", x -> x.of(1, 0), Kinds.UNDONE);
        gone.due("WHY", x -> x.of(1, 1), 2);
        gone.due("ACTS asked", x -> x.of(1, 6), 1);
        gone.due("ACTS asked in all", x -> x.count(8), 1);
        gone.due("locks asked for", x -> x.count(13), 1);
        gone.due("locks", x -> x.count(7), 0);
        gone.due("value", x -> x.object(COUNTER, 2), 5);
        gone.due("UNDONE", x -> x.count(5), 1);
        gone.due("no RING", x -> x.count(6), 0);
        Scene found = with(Kinds.COUNTER, 5).then(x -> {
            x.limit(1);
            x.act(1, COUNTER, Kinds.PUT, 1, 0);
        });
        found.due("one with a FINDING was asked too", x -> x.act(1, COUNTER, Kinds.ADD, 1, 0), 2);
        Scene refused = with(Kinds.COUNTER, 5).then(x -> {
            x.limit(1);
            x.act(1, 9, Kinds.GET, 1, 0);
        });
        refused.due("one that was BAD was not", x -> x.act(1, COUNTER, Kinds.ADD, 1, 0), 1);
        two.refused("BAD ahead of LIMIT", x -> x.act(1, COUNTER, 22, 1, 0), Kinds.BAD);
    }

    /** The LIMIT is 200 at first, and at most. */
    private static void limitOfTwoHundred() {
        Scene most = with(Kinds.COUNTER, 5).then(x -> askAdds(x, 1, 199));
        most.due("the 200th ACT", x -> x.act(1, COUNTER, Kinds.ADD, 1, 0), 1);
        Scene all = most.then(x -> askAdds(x, 1, 1));
        all.due("value", x -> x.object(COUNTER, 2), 205);
        all.due("the 201st ACT", x -> x.act(1, COUNTER, Kinds.ADD, 1, 0), 2);
        all.due("end", x -> x.end(1), 1);
        Scene gone = all.then(x -> askAdds(x, 1, 1));
        gone.due("value behind", x -> x.object(COUNTER, 2), 5);
        gone.due("rows behind", x -> x.count(11), 4 + 200 + 200 + 1);
        Scene other = all.then(x -> x.begin(0));
        other.due("the LIMIT is of each", x -> x.act(2, COUNTER, Kinds.ADD, 1, 0), 1);
    }

    /** The LIMIT of now counts, also for what was asked before. */
    private static void limitLowered() {
        for (int limit = 1; limit <= 5; limit++) {
            int now = limit;
            Scene scene = with(Kinds.COUNTER, 5).then(x -> {
                askAdds(x, 1, 3);
                x.limit(now);
            });
            scene.due("the 4th ACT, LIMIT " + limit, x -> x.act(1, COUNTER, Kinds.ADD, 1, 0), limit >= 4 ? 1 : 2);
            scene.due("nothing by limit() alone", x -> x.of(1, 0), Kinds.RUNNING);
        }
        Scene undone = with(Kinds.COUNTER, 5).then(x -> {
            x.limit(3);
            askAdds(x, 1, 3);
            x.backTo(1, 0);
        });
        undone.due("ACTS undone were asked still", x -> x.act(1, COUNTER, Kinds.ADD, 1, 0), 2);
    }

    /** "FULL: 700 were asked in all": never within 512 calls; ActsTest.sevenHundred looks at 700. */
    private static void asManyAsCanBeAsked() {
        HoldHouse x = new HoldHouse();
        x.make(Kinds.FOLDER, -1, 0);
        x.make(Kinds.COUNTER, 0, 0);
        for (int t = 1; t <= 3; t++) {
            x.begin(0);
        }
        for (int i = 0; i < 507; i++) {
            CHECK.due("ACT " + i + " of 507", x.act(1 + i % 3, COUNTER, Kinds.ADD, 1, 0), 1);
        }
    }

    /** "A FINDING: locks that were granted for that ACT are free again, and it is RUNNING." */
    private static void findingFreesLocks() {
        Scene scene = new Scene(CHECK, x -> {
            x.make(Kinds.FOLDER, -1, 0);
            x.make(Kinds.ACCOUNT, 0, 5);
            x.make(Kinds.ACCOUNT, 0, 5);
            x.begin(0);
        });
        scene.then(x -> x.act(1, 1, Kinds.DRAW, 6, 0)).due("none is left", x -> x.count(7), 0);
        scene.then(x -> x.act(1, 1, Kinds.MOVE, 6, 2)).due("none of two is left", x -> x.count(7), 0);
        Scene held = scene.then(x -> x.act(1, 1, Kinds.DRAW, 3, 0));
        held.due("FOLDER and ACCOUNT", x -> x.count(7), 2);
        Scene again = held.then(x -> x.act(1, 1, Kinds.DRAW, 3, 0));
        again.due("the same once more", x -> x.of(1, 8), 6);
        again.due("what was held before is held", x -> x.count(7), 2);
        Scene other = held.then(x -> x.act(1, 2, Kinds.DRAW, 6, 0));
        other.due("only the new one is free", x -> x.count(7), 2);
        other.due("no lock there", x -> x.lock(2, 0, 0), Kinds.NONE);
        Scene nested = held.then(x -> {
            x.nest(1);
            x.act(1, 2, Kinds.DRAW, 6, 0);
        });
        nested.due("at a LEVEL too", x -> x.count(7), 2);
    }

    /** A FINDING of an ACT that went on while SETTLING, and what its locks kept waiting goes on too. */
    private static void findingOfOneThatWaited() {
        Scene scene = with(Kinds.ACCOUNT, 5).then(x -> {
            x.begin(0);
            x.begin(0);
            x.act(1, 0, Kinds.GET, 0, 0);
            x.act(2, 0, Kinds.DRAW, 6, 0);
            x.act(3, 0, Kinds.GET, 0, 0);
        });
        scene.due("2 WAITS", x -> x.of(2, 0), Kinds.WAITING);
        scene.due("2 has no FINDING yet", x -> x.of(2, 8), 0);
        scene.due("3 WAITS behind it", x -> x.of(3, 0), Kinds.WAITING);
        Scene gone = scene.then(x -> x.end(1));
        gone.due("2 RUNS", x -> x.of(2, 0), Kinds.RUNNING);
        gone.due("2 has its FINDING", x -> x.of(2, 8), 6);
        gone.due("2 has no lock", x -> x.of(2, 10), 0);
        gone.due("3 went on", x -> x.of(3, 7), 5);
        gone.due("one lock", x -> x.count(7), 1);
        gone.due("FINDINGS", x -> x.count(10), 1);
        gone.due("the latest BODY", x -> x.trace(0), 1);
    }

    /** of: 7 and 8 tell of the latest ACT that was DONE, or had a FINDING; one that WAITS did not come to that. */
    private static void answersStay() {
        Scene scene = with(Kinds.COUNTER, 5).then(x -> x.begin(0));
        scene.due("no ANSWER yet", x -> x.of(2, 7), 0);
        scene.due("no FINDING yet", x -> x.of(2, 8), 0);
        Scene found = scene.then(x -> {
            x.act(2, COUNTER, Kinds.ADD, 4, 0);
            x.act(2, COUNTER, Kinds.BY, 0, 0);
            x.act(1, 0, Kinds.ADD, 1, 0);
        });
        found.due("ANSWER of the one DONE", x -> x.of(2, 7), 4);
        found.due("FINDING of the latest", x -> x.of(2, 8), 3);
        Scene waits = found.then(x -> x.act(2, 0, Kinds.GET, 0, 0));
        waits.due("WAITS", x -> x.of(2, 0), Kinds.WAITING);
        waits.due("ANSWER stays", x -> x.of(2, 7), 4);
        waits.due("FINDING stays", x -> x.of(2, 8), 3);
        Scene undone = waits.then(x -> x.undo(2));
        undone.due("ANSWER stays when UNDONE", x -> x.of(2, 7), 4);
        undone.due("FINDING stays when UNDONE", x -> x.of(2, 8), 3);
        Scene went = waits.then(x -> x.undo(1));
        went.due("ANSWER of the one that went on", x -> x.of(2, 7), 5);
        went.due("no FINDING any more", x -> x.of(2, 8), 0);
    }

    /** trace: "(the first 16 are told)" */
    private static void traceOfSixteen() {
        for (int many = 13; many <= 18; many++) {
            int counters = many;
            HoldHouse x = new Scene(CHECK, y -> {
                y.make(Kinds.FOLDER, -1, 0);
                for (int i = 0; i < counters; i++) {
                    y.make(Kinds.COUNTER, 0, 1);
                }
                y.begin(0);
                y.act(1, 0, Kinds.SUM, 0, 0);
            }).house();
            CHECK.due("SUM of " + many, x.of(1, 7), many);
            CHECK.due("BODY 0 of SUM", x.trace(0), 24);
            for (int i = 1; i < 16; i++) {
                CHECK.due("BODY " + i + " of a SUM of " + many, x.trace(i), i <= many ? 1 : Kinds.NONE);
            }
            CHECK.due("BODY 16 is not told", x.trace(16), Kinds.NONE);
            CHECK.due("BODY 17 is not told", x.trace(17), Kinds.NONE);
        }
    }

    /** trace: "NONE", of the latest ACT alone. */
    private static void traceNumbers() {
        Scene scene = with(Kinds.ACCOUNT, 5);
        for (int i : new int[] {MIN, -1, 0, 15, 16, MAX}) {
            scene.due("BODY " + i + " of no ACT", x -> x.trace(i), Kinds.NONE);
        }
        Scene moved = scene.then(x -> x.act(1, 0, Kinds.MOVE, 1, ACCOUNT));
        moved.due("BODY 6", x -> x.trace(6), 3);
        for (int i : new int[] {MIN, -1, 7, 15, 16, MAX}) {
            moved.due("BODY " + i, x -> x.trace(i), Kinds.NONE);
        }
        Scene less = moved.then(x -> x.act(1, 0, Kinds.GET, 0, 0));
        less.due("BODY 0 of the next", x -> x.trace(0), 1);
        less.due("BODY 1 of the next", x -> x.trace(1), Kinds.NONE);
        Scene held = moved.then(x -> x.act(1, 0, Kinds.HOLD, 0, 0));
        held.due("HOLD has none", x -> x.trace(0), Kinds.NONE);
        Scene kind = moved.then(x -> x.act(1, 0, Kinds.PUT, 0, 0));
        kind.due("KIND has none", x -> x.trace(0), Kinds.NONE);
        Scene refused = moved.then(x -> x.act(1, 0, 22, 0, 0));
        refused.due("one that was BAD leaves those of before", x -> x.trace(0), 23);
        Scene others = moved.then(x -> {
            x.end(1);
            x.serial();
            x.tried(Kinds.SET, Kinds.HAS, 0, Kinds.HAS, 0);
        });
        others.due("END, serial and tried leave those of before", x -> x.trace(0), 23);
        others.then(x -> x.cut(0)).due("a CUT too", x -> x.trace(6), 3);
    }
}
