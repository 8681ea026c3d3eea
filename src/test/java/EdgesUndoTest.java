/**
 * "AN ACT is UNDONE by its contrary: what is there as if it had not been, acts of others apart. (Latest ones first.)",
 * for each KIND that WRITES, at the edges of what its SORT can have, by each call that undoes.
 */
public final class EdgesUndoTest {
    private static final Check CHECK = new Check("EdgesUndoTest");
    private static final int MIN = Integer.MIN_VALUE, MAX = Integer.MAX_VALUE, MOST = 1000000000;
    // OBJECT 0 is the one on which a test acts; these stand beside it.
    private static final int COUNTER = 1, ACCOUNT = 2, FULL_ACCOUNT = 3;

    public static void main(String[] args) {
        values();
        accounts();
        sets();
        queues();
        maps();
        slots();
        moves();
        reading();
        latestFirst();
        besideAdds();
        besidePays();
        besideNumbers();
        besideKeys();
        withFindingsBetween();
        doneOnceMore();
        CHECK.close();
    }

    private static int[] a(int... act) {
        return act;
    }

    /** OBJECT 0 of a SORT made with v, those beside it, and what an ENDED one did on OBJECT 0. */
    private static Scene with(int sort, int v, int[]... acts) {
        return new Scene(CHECK, x -> {
            x.make(sort, -1, v);
            x.make(Kinds.COUNTER, -1, MAX);
            x.make(Kinds.ACCOUNT, -1, 5);
            x.make(Kinds.ACCOUNT, -1, MOST - 5);
            x.begin(0);
            for (int[] act : acts) {
                CHECK.due("act before", x.act(1, 0, act[0], act[1], act[2]), 1);
            }
            x.end(1);
            x.begin(0);
        });
    }

    /** The ACTS are DONE, and undone in each way: all is as before, and as THE KEPT. */
    private static void undone(Scene scene, int[]... acts) {
        HoldHouse before = scene.house();
        Scene done = scene.then(x -> {
            for (int[] act : acts) {
                CHECK.due("KIND " + act[0] + " with " + act[1], x.act(2, 0, act[0], act[1], act[2]), 1);
            }
        });
        Scene nested = scene.then(x -> {
            x.nest(2);
            for (int[] act : acts) {
                x.act(2, 0, act[0], act[1], act[2]);
            }
        });
        int many = acts.length;
        int[] digests = new int[4];
        for (int o = 0; o < 4; o++) {
            digests[o] = before.object(o, 2);
        }
        asBefore("backTo", done, x -> x.backTo(2, 0), many, digests);
        asBefore("undo", done, x -> x.undo(2), many, digests);
        asBefore("back", nested, x -> x.back(2), many, digests);
        asBefore("crash", done, x -> x.crash(), 1, digests);
        asBefore("LIMIT", done.then(x -> x.limit(many)), x -> x.act(2, 1, Kinds.HOLD, 0, 0), 2, digests);
        for (int left = many - 1; left > 0; left--) {
            int to = left;
            Scene some = scene.then(x -> {
                for (int i = 0; i < to; i++) {
                    x.act(2, 0, acts[i][0], acts[i][1], acts[i][2]);
                }
            });
            done.then(x -> x.backTo(2, to)).due("backTo " + left, x -> x.digest(), some.house().digest());
        }
    }

    private static void asBefore(String name, Scene done, Scene.Call call, int answer, int[] digests) {
        done.due(name, call, answer);
        Scene behind = done.then(x -> call.on(x));
        for (int o = 0; o < digests.length; o++) {
            int at = o;
            behind.due(name + ": OBJECT " + o, x -> x.object(at, 2), digests[o]);
            behind.due(name + ": KEPT " + o, x -> x.object(at, 3), digests[o]);
        }
        behind.due(name + ": ACTS", x -> x.of(2, 5), 0);
    }

    /** ADD and BY go round, BY cuts: neither is undone by reckoning back alone. */
    private static void values() {
        int[][] adds = {{MAX, 1}, {MIN, -1}, {MIN, MIN}, {0, 0}, {5, MAX}};
        for (int[] one : adds) {
            undone(with(Kinds.COUNTER, one[0]), a(Kinds.ADD, one[1], 0));
        }
        int[][] parts = {{7, 2}, {-7, 2}, {MIN, -1}, {MIN, MAX}, {1, 5}, {0, 3}, {MAX, 1}};
        for (int[] one : parts) {
            undone(with(Kinds.COUNTER, one[0]), a(Kinds.BY, one[1], 0));
            undone(with(Kinds.COUNTER, one[0]), a(Kinds.ADD, 3, 0), a(Kinds.BY, one[1], 0), a(Kinds.ADD, 4, 0));
        }
        int[][] puts = {{0, 0}, {MIN, MAX}, {MAX, MIN}, {5, 5}};
        for (int[] one : puts) {
            undone(with(Kinds.REGISTER, one[0]), a(Kinds.PUT, one[1], 0));
        }
    }

    /** At 0 and at 1000000000. */
    private static void accounts() {
        undone(with(Kinds.ACCOUNT, 0), a(Kinds.ADD, MOST, 0));
        undone(with(Kinds.ACCOUNT, MOST), a(Kinds.ADD, -MOST, 0));
        undone(with(Kinds.ACCOUNT, MOST - 1000), a(Kinds.PAY, 1000, 0));
        undone(with(Kinds.ACCOUNT, 1000), a(Kinds.DRAW, 1000, 0));
        undone(with(Kinds.ACCOUNT, 0), a(Kinds.PAY, 0, 0), a(Kinds.DRAW, 0, 0));
        undone(with(Kinds.ACCOUNT, MOST), a(Kinds.BY, MAX, 0));
        undone(with(Kinds.ACCOUNT, 7), a(Kinds.BY, 2, 0), a(Kinds.PAY, 3, 0), a(Kinds.BY, 5, 0));
    }

    /** What was there stays there, what was not does not; 0 and 31. */
    private static void sets() {
        for (int n : new int[] {0, 1, 30, 31}) {
            undone(with(Kinds.SET, 0), a(Kinds.INSERT, n, 0));
            undone(with(Kinds.SET, 0), a(Kinds.DELETE, n, 0));
            undone(with(Kinds.SET, 0, a(Kinds.INSERT, n, 0)), a(Kinds.INSERT, n, 0));
            undone(with(Kinds.SET, 0, a(Kinds.INSERT, n, 0)), a(Kinds.DELETE, n, 0));
            undone(with(Kinds.SET, 0), a(Kinds.INSERT, n, 0), a(Kinds.INSERT, n, 0), a(Kinds.DELETE, n, 0));
            undone(with(Kinds.SET, 0, a(Kinds.INSERT, n, 0)), a(Kinds.DELETE, n, 0), a(Kinds.DELETE, n, 0));
        }
    }

    private static int[][] entered(int many) {
        int[][] acts = new int[many][];
        for (int i = 0; i < many; i++) {
            acts[i] = a(Kinds.ENTER, 11 * i + 3, 0);
        }
        return acts;
    }

    /** From empty to full. */
    private static void queues() {
        for (int many = 0; many <= 8; many++) {
            Scene queue = with(Kinds.QUEUE, 0, entered(many));
            if (many < 8) {
                undone(queue, a(Kinds.ENTER, MIN, 0));
            }
            if (many > 0) {
                undone(queue, a(Kinds.LEAVE, 0, 0));
                undone(queue, a(Kinds.LEAVE, 0, 0), a(Kinds.ENTER, MAX, 0));
            }
            int[][] all = new int[2 * many][];
            for (int i = 0; i < many; i++) {
                all[i] = a(Kinds.LEAVE, 0, 0);
                all[many + i] = a(Kinds.ENTER, -i, 0);
            }
            if (many > 0) {
                undone(queue, all);
            }
        }
    }

    /** None, 0 and other ints; KEYS 0 and 7. */
    private static void maps() {
        for (int key : new int[] {0, 1, 6, 7}) {
            undone(with(Kinds.MAP, 0), a(Kinds.STORE, key, 0));
            undone(with(Kinds.MAP, 0), a(Kinds.STORE, key, -1));
            for (int v : new int[] {MIN, -1, 0, MAX}) {
                Scene there = with(Kinds.MAP, 0, a(Kinds.STORE, key, v));
                undone(there, a(Kinds.STORE, key, 5));
                undone(there, a(Kinds.STORE, key, v));
                undone(there, a(Kinds.DROP, key, 0));
                undone(there, a(Kinds.DROP, key, 0), a(Kinds.STORE, key, 5), a(Kinds.STORE, key, 6));
                undone(there, a(Kinds.STORE, key, 5), a(Kinds.DROP, key, 0));
                lookBehind(there, key, v);
            }
            lookBehind(with(Kinds.MAP, 0), key, Kinds.NONE);
        }
    }

    /** -1 and none have one DIGEST: LOOK tells which it is. */
    private static void lookBehind(Scene scene, int key, int v) {
        Scene behind = scene.then(x -> {
            x.act(2, 0, Kinds.STORE, key, 9);
            x.act(2, 0, Kinds.DROP, key, 0);
            x.backTo(2, 0);
        });
        behind.due("LOOK behind", x -> x.act(2, 0, Kinds.LOOK, key, 0), v == Kinds.NONE ? Kinds.NULL : 1);
        if (v != Kinds.NONE) {
            behind.then(x -> x.act(2, 0, Kinds.LOOK, key, 0)).due("what is there", x -> x.of(2, 7), v);
        }
    }

    /** POINT, and BUMP on the OBJECT of the number that it had then. */
    private static void slots() {
        undone(with(Kinds.SLOT, 0), a(Kinds.POINT, 0, 0));
        undone(with(Kinds.SLOT, 0), a(Kinds.POINT, -1, 0));
        undone(with(Kinds.SLOT, 0, a(Kinds.POINT, FULL_ACCOUNT, 0)), a(Kinds.POINT, -1, 0));
        undone(with(Kinds.SLOT, 0, a(Kinds.POINT, COUNTER, 0)), a(Kinds.BUMP, 1, 0));
        undone(with(Kinds.SLOT, 0, a(Kinds.POINT, COUNTER, 0)), a(Kinds.BUMP, MIN, 0));
        undone(with(Kinds.SLOT, 0, a(Kinds.POINT, ACCOUNT, 0)), a(Kinds.BUMP, -5, 0));
        undone(with(Kinds.SLOT, 0, a(Kinds.POINT, FULL_ACCOUNT, 0)), a(Kinds.BUMP, 5, 0));
        undone(with(Kinds.SLOT, 0, a(Kinds.POINT, COUNTER, 0)), a(Kinds.BUMP, 7, 0), a(Kinds.POINT, ACCOUNT, 0),
                a(Kinds.BUMP, 8, 0), a(Kinds.POINT, -1, 0));
    }

    /** Both OBJECTS of a MOVE. */
    private static void moves() {
        undone(with(Kinds.ACCOUNT, 1000), a(Kinds.MOVE, 1000, ACCOUNT));
        undone(with(Kinds.ACCOUNT, 5), a(Kinds.MOVE, 5, FULL_ACCOUNT));
        undone(with(Kinds.ACCOUNT, 5), a(Kinds.MOVE, 0, FULL_ACCOUNT));
        undone(with(Kinds.ACCOUNT, 9), a(Kinds.MOVE, 4, FULL_ACCOUNT), a(Kinds.MOVE, 5, ACCOUNT));
    }

    /** ACTS that change nothing are undone, too: each is counted, each has its row. */
    private static void reading() {
        undone(with(Kinds.COUNTER, 5), a(Kinds.GET, 0, 0));
        undone(with(Kinds.COUNTER, 5), a(Kinds.HOLD, 1, 0), a(Kinds.HOLD, 0, 0), a(Kinds.GET, 0, 0));
        undone(with(Kinds.FOLDER, 0), a(Kinds.SUM, 0, 0));
        undone(with(Kinds.QUEUE, 0, entered(2)), a(Kinds.AT, 1, 0), a(Kinds.FIRST, 2, 0), a(Kinds.SIZE, 0, 0));
    }

    /** "(Latest ones first.)" */
    private static void latestFirst() {
        undone(with(Kinds.COUNTER, 9), a(Kinds.ADD, 1, 0), a(Kinds.BY, 3, 0), a(Kinds.ADD, 5, 0), a(Kinds.BY, -4, 0));
        undone(with(Kinds.REGISTER, 9), a(Kinds.PUT, 1, 0), a(Kinds.PUT, 2, 0), a(Kinds.PUT, 3, 0));
        Scene three = with(Kinds.REGISTER, 9).then(x -> {
            for (int i = 1; i <= 3; i++) {
                x.act(2, 0, Kinds.PUT, i, 0);
            }
        });
        int rows = three.house().count(11);
        Scene gone = three.then(x -> x.backTo(2, 0));
        for (int i = 0; i < 3; i++) {
            int row = rows + i;
            int undoes = rows - 1 - i;
            gone.due("row of an UNDONE ACT", x -> x.row(row, 0), 3);
            gone.due("which it undid", x -> x.row(row, 7), undoes);
        }
    }

    private static void both(HoldHouse x, int kind, int first, int second, int b) {
        x.begin(0);
        x.act(2, 0, kind, first, b);
        x.act(3, 0, kind, second, b + 1);
    }

    /** Another's ADDS stay, going round. */
    private static void besideAdds() {
        for (int v : new int[] {MIN, -1, 0, MAX}) {
            Scene two = with(Kinds.COUNTER, v).then(x -> both(x, Kinds.ADD, MAX, 7, 0));
            two.due("both", x -> x.object(0, 2), v + MAX + 7);
            two.then(x -> x.undo(2)).due("the second one's stays", x -> x.object(0, 2), v + 7);
            two.then(x -> x.undo(3)).due("the first one's stays", x -> x.object(0, 2), v + MAX);
            two.then(x -> {
                x.end(3);
                x.undo(2);
            }).due("of one ENDED too", x -> x.object(0, 2), v + 7);
            Scene same = with(Kinds.COUNTER, v).then(x -> both(x, Kinds.ADD, 7, 7, 0));
            same.then(x -> x.undo(2)).due("the same a", x -> x.object(0, 2), v + 7);
            same.then(x -> x.backTo(3, 0)).due("the same a", x -> x.object(0, 2), v + 7);
        }
    }

    /** Another's PAYS stay, up to what an ACCOUNT can have. */
    private static void besidePays() {
        Scene two = with(Kinds.ACCOUNT, MOST - 1500).then(x -> both(x, Kinds.PAY, 1000, 500, 0));
        two.due("full", x -> x.object(0, 2), MOST);
        two.due("no more", x -> x.act(3, 0, Kinds.PAY, 1, 0), Kinds.FULL_THERE);
        Scene first = two.then(x -> x.undo(2));
        first.due("the second one's stays", x -> x.object(0, 2), MOST - 1000);
        first.due("room for 1000", x -> x.act(3, 0, Kinds.PAY, 1000, 0), 1);
        first.then(x -> x.act(3, 0, Kinds.PAY, 1000, 0)).due("no more", x -> x.act(3, 0, Kinds.PAY, 1, 0),
                Kinds.FULL_THERE);
        two.then(x -> x.undo(3)).due("the first one's stays", x -> x.object(0, 2), MOST - 500);
        Scene ended = two.then(x -> {
            x.end(3);
            x.undo(2);
        });
        ended.due("KEPT", x -> x.object(0, 3), MOST - 1000);
        ended.due("now", x -> x.object(0, 2), MOST - 1000);
        ended.due("serial", x -> x.serial(), 1);
    }

    /** Another's numbers of a SET stay. */
    private static void besideNumbers() {
        Scene in = with(Kinds.SET, 0).then(x -> both(x, Kinds.INSERT, 0, 31, 0));
        in.due("both", x -> x.object(0, 2), MIN + 1);
        in.then(x -> x.undo(2)).due("31 stays", x -> x.object(0, 2), MIN);
        in.then(x -> x.undo(3)).due("0 stays", x -> x.object(0, 2), 1);
        Scene out = with(Kinds.SET, 0, a(Kinds.INSERT, 0, 0), a(Kinds.INSERT, 31, 0))
                .then(x -> both(x, Kinds.DELETE, 0, 31, 0));
        out.due("neither", x -> x.object(0, 2), 0);
        out.then(x -> x.undo(2)).due("0 is there again", x -> x.object(0, 2), 1);
        out.then(x -> x.undo(3)).due("31 is there again", x -> x.object(0, 2), MIN);
    }

    /** Another's KEYS of a MAP stay. */
    private static void besideKeys() {
        int none = with(Kinds.MAP, 0).house().object(0, 2);
        int seven = with(Kinds.MAP, 0, a(Kinds.STORE, 7, 5)).house().object(0, 2);
        int zero = with(Kinds.MAP, 0, a(Kinds.STORE, 0, 4)).house().object(0, 2);
        Scene in = with(Kinds.MAP, 0).then(x -> both(x, Kinds.STORE, 0, 7, 4));
        in.then(x -> x.undo(2)).due("KEY 7 stays", x -> x.object(0, 2), seven);
        in.then(x -> x.undo(3)).due("KEY 0 stays", x -> x.object(0, 2), zero);
        Scene out = with(Kinds.MAP, 0, a(Kinds.STORE, 0, 4), a(Kinds.STORE, 7, 5))
                .then(x -> both(x, Kinds.DROP, 0, 7, 0));
        out.due("neither", x -> x.object(0, 2), none);
        out.then(x -> x.undo(2)).due("KEY 0 is there again", x -> x.object(0, 2), zero);
        out.then(x -> x.undo(3)).due("KEY 7 is there again", x -> x.object(0, 2), seven);
    }

    /** An ACT with a FINDING is none, and nothing of it is undone. */
    private static void withFindingsBetween() {
        Scene scene = with(Kinds.ACCOUNT, 5).then(x -> {
            x.act(2, 0, Kinds.PAY, 3, 0);
            x.act(2, 0, Kinds.DRAW, 9, 0);
            x.act(2, 0, Kinds.BY, 0, 0);
            x.act(2, 0, Kinds.MOVE, 6, FULL_ACCOUNT);
            x.act(2, 0, Kinds.MOVE, 6, COUNTER);
            x.act(2, 0, Kinds.DRAW, 8, 0);
        });
        scene.due("FINDINGS", x -> x.count(10), 4);
        scene.due("ACTS", x -> x.of(2, 5), 2);
        scene.due("value", x -> x.object(0, 2), 0);
        scene.due("backTo 1", x -> x.backTo(2, 1), 1);
        scene.then(x -> x.backTo(2, 1)).due("value behind", x -> x.object(0, 2), 8);
        scene.due("undo", x -> x.undo(2), 2);
        Scene gone = scene.then(x -> x.undo(2));
        gone.due("value behind", x -> x.object(0, 2), 5);
        gone.due("the other's", x -> x.object(FULL_ACCOUNT, 2), MOST - 5);
        gone.due("the COUNTER's", x -> x.object(COUNTER, 2), MAX);
    }

    /** What was undone may be done once more, and is undone once alone. */
    private static void doneOnceMore() {
        Scene scene = with(Kinds.QUEUE, 0, entered(7)).then(x -> {
            for (int i = 0; i < 5; i++) {
                x.act(2, 0, Kinds.ENTER, i, 0);
                x.backTo(2, 0);
            }
            x.act(2, 0, Kinds.ENTER, 50, 0);
        });
        scene.due("ACTS", x -> x.of(2, 5), 1);
        scene.due("full", x -> x.act(2, 0, Kinds.ENTER, 9, 0), Kinds.FULL_THERE);
        scene.due("undo", x -> x.undo(2), 1);
        scene.then(x -> x.undo(2)).due("as before", x -> x.object(0, 2), scene.house().object(0, 3));
        scene.then(x -> x.end(2)).due("KEPT has the last alone", x -> x.object(0, 3), scene.house().object(0, 2));
        scene.then(x -> x.end(2)).due("serial", x -> x.serial(), 1);
    }
}
