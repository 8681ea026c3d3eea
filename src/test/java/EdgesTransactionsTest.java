/**
 * The edges that TRANSACTIONS and promises 4 begin, 5 nest, 6 join, 7 back, 8 save, 9 backTo, 10 end, 11 undo,
 * 12 retry and 14 of name: just inside, on, just outside; what is refused changes nothing.
 */
public final class EdgesTransactionsTest {
    private static final Check CHECK = new Check("EdgesTransactionsTest");
    private static final int MIN = Integer.MIN_VALUE, MAX = Integer.MAX_VALUE;
    // In the house of states() the TRANSACTIONS are by their numbers:
    private static final int RUNS = 1, WAITS = 2, ENDED = 3, ASKED = 4, LIMITED = 5, RINGED = 6, HOLDS = 7, BEGAN = 7;

    public static void main(String[] args) {
        transactionNumbers();
        twelveAtOnce();
        twelveOfBothStates();
        fourHundred();
        fourHundredByRetry();
        ranks();
        fourLevels();
        nestStates();
        joinStates();
        joinLowersItsOwn();
        backStates();
        backOfNothing();
        backFreesItsOwn();
        saves();
        backToBounds();
        backToAtALevel();
        backToStates();
        backToKeepsLocks();
        endStates();
        endNumbers();
        undoStates();
        undoOfLevels();
        retryStates();
        retryTries();
        ofNumbers();
        ofWhats();
        CHECK.close();
    }

    private static Scene scene(Scene.Story story) {
        return new Scene(CHECK, story);
    }

    private static Scene begun(int many) {
        return scene(x -> {
            x.make(Kinds.COUNTER, -1, 10);
            for (int t = 0; t < many; t++) {
                x.begin(t);
            }
        });
    }

    private static void adds(HoldHouse x, int t, int many) {
        for (int i = 0; i < many; i++) {
            x.act(t, 0, Kinds.ADD, 1, 0);
        }
    }

    /** One TRANSACTION in each state, and UNDONE for each reason but a CUT. */
    private static Scene states() {
        return scene(x -> {
            for (int o = 0; o < 5; o++) {
                x.make(Kinds.REGISTER, -1, o);
            }
            for (int t = 1; t <= BEGAN; t++) {
                x.begin(t);
            }
            x.end(ENDED);
            x.act(ASKED, 4, Kinds.PUT, 9, 0);
            x.undo(ASKED);
            x.act(LIMITED, 4, Kinds.PUT, 8, 0);
            x.limit(1);
            x.act(LIMITED, 4, Kinds.PUT, 8, 0);
            x.limit(200);
            x.act(HOLDS, 0, Kinds.PUT, 1, 0);
            x.act(RINGED, 1, Kinds.PUT, 1, 0);
            x.act(HOLDS, 1, Kinds.GET, 0, 0);
            x.rule(2);
            x.act(RINGED, 0, Kinds.GET, 0, 0);
            x.act(WAITS, 2, Kinds.PUT, 3, 0);
            x.act(WAITS, 0, Kinds.GET, 0, 0);
            x.act(RUNS, 3, Kinds.PUT, 5, 0);
        });
    }

    private static Scene checkedStates() {
        Scene all = states();
        int[] states = {0, Kinds.RUNNING, Kinds.WAITING, Kinds.ENDED, Kinds.UNDONE, Kinds.UNDONE, Kinds.UNDONE, 1};
        int[] whys = {0, 0, 0, 0, 3, 2, 1, 0};
        for (int t = 1; t <= BEGAN; t++) {
            int one = t;
            all.due("state of " + t, x -> x.of(one, 0), states[t]);
            all.due("WHY of " + t, x -> x.of(one, 1), whys[t]);
        }
        return all;
    }

    /** "TRANSACTIONS are numbered from 1 on"; of each call BAD: a number that none has. */
    private static void transactionNumbers() {
        Scene two = begun(2);
        two.due("began", x -> x.count(1), 2);
        for (int t : new int[] {MIN, -1, 0, 3, 4, 400, 401, MAX}) {
            two.refused("nest of " + t, x -> x.nest(t), Kinds.BAD);
            two.refused("join of " + t, x -> x.join(t), Kinds.BAD);
            two.refused("back of " + t, x -> x.back(t), Kinds.BAD);
            two.refused("save of " + t, x -> x.save(t), Kinds.BAD);
            two.refused("backTo of " + t, x -> x.backTo(t, 0), Kinds.BAD);
            two.refused("end of " + t, x -> x.end(t), Kinds.BAD);
            two.refused("undo of " + t, x -> x.undo(t), Kinds.BAD);
            two.refused("retry of " + t, x -> x.retry(t), Kinds.BAD);
            two.refused("of " + t, x -> x.of(t, 0), Kinds.BAD);
        }
        two.due("nest of 1", x -> x.nest(1), 1);
        two.due("nest of 2", x -> x.nest(2), 1);
    }

    /** "12 under way at once"; begin: "FULL". */
    private static void twelveAtOnce() {
        begun(0).due("the first", x -> x.begin(0), 1);
        begun(10).due("the 11th", x -> x.begin(0), 11);
        begun(11).due("the 12th", x -> x.begin(0), 12);
        Scene twelve = begun(12);
        twelve.refused("the 13th", x -> x.begin(0), Kinds.FULL);
        twelve.due("under way", x -> x.count(2), 12);
        twelve.then(x -> x.end(1)).due("room behind an END", x -> x.begin(0), 13);
        twelve.then(x -> x.undo(12)).due("room behind an undoing", x -> x.begin(0), 13);
        twelve.then(x -> x.crash()).due("room behind a CUT", x -> x.begin(0), 13);
        twelve.then(x -> {
            x.end(6);
            x.begin(0);
        }).refused("the 13th again", x -> x.begin(0), Kinds.FULL);
        twelve.then(x -> {
            x.limit(1);
            adds(x, 3, 2);
        }).due("room behind the LIMIT", x -> x.begin(0), 13);
    }

    /** Those that WAIT are under way too. */
    private static void twelveOfBothStates() {
        Scene waiting = begun(12).then(x -> {
            adds(x, 1, 1);
            for (int t = 2; t <= 12; t++) {
                x.act(t, 0, Kinds.GET, 0, 0);
            }
        });
        waiting.due("RUNNING", x -> x.count(2), 1);
        waiting.due("WAITING", x -> x.count(3), 11);
        waiting.refused("the 13th while eleven WAIT", x -> x.begin(0), Kinds.FULL);
        Scene behind = waiting.then(x -> x.end(1));
        behind.due("all went on", x -> x.count(2), 11);
        behind.due("the 13th", x -> x.begin(0), 13);
    }

    private static void beginMany(HoldHouse x, int many) {
        x.rest();
        for (int t = 1; t <= many; t++) {
            x.begin(t);
            if (t % 12 == 0) {
                x.crash();
            }
        }
    }

    /** "400 at most"; begin: "FULL", also when none is under way. */
    private static void fourHundred() {
        scene(x -> beginMany(x, 398)).due("the 399th", x -> x.begin(0), 399);
        scene(x -> beginMany(x, 399)).due("the 400th", x -> x.begin(0), 400);
        Scene all = scene(x -> beginMany(x, 400));
        all.refused("the 401st", x -> x.begin(0), Kinds.FULL);
        all.due("began", x -> x.count(1), 400);
        all.due("RANK of the last", x -> x.of(400, 3), 400);
        Scene none = all.then(x -> x.crash());
        none.due("none is under way", x -> x.count(2), 0);
        none.refused("the 401st behind a CUT", x -> x.begin(0), Kinds.FULL);
        none.due("UNDONE by CUTS", x -> x.count(5), 400);
        none.due("rows", x -> x.count(11), 1);
    }

    /** retry: "FULL", of 400 and of 12. */
    private static void fourHundredByRetry() {
        Scene.Story limited = x -> {
            x.make(Kinds.COUNTER, -1, 0);
            x.limit(1);
            x.begin(-5);
            adds(x, 1, 2);
        };
        Scene.Story before = x -> {
            limited.tell(x);
            x.rest();
            for (int t = 2; t <= 399; t++) {
                x.begin(0);
                if (t % 12 == 0) {
                    x.crash();
                }
            }
        };
        Scene almost = scene(before);
        almost.due("retry as the 400th", x -> x.retry(1), 400);
        Scene all = almost.then(x -> x.retry(1));
        all.refused("retry as the 401st", x -> x.retry(1), Kinds.FULL);
        all.then(x -> x.crash()).refused("retry, none under way", x -> x.retry(1), Kinds.FULL);
        Scene eleven = scene(limited).then(x -> {
            for (int i = 0; i < 11; i++) {
                x.begin(0);
            }
        });
        eleven.due("retry as the 12th under way", x -> x.retry(1), 13);
        Scene twelve = eleven.then(x -> x.retry(1));
        twelve.refused("retry as the 13th under way", x -> x.retry(1), Kinds.FULL);
        twelve.refused("STATE ahead of FULL", x -> x.retry(2), Kinds.STATE);
        twelve.refused("BAD ahead of FULL", x -> x.retry(14), Kinds.BAD);
    }

    /** A RANK is any int. */
    private static void ranks() {
        for (int rank : new int[] {MIN, -1, 0, 1, MAX}) {
            scene(x -> x.begin(rank)).due("RANK", x -> x.of(1, 3), rank);
        }
    }

    private static Scene atLevel(int level) {
        return begun(2).then(x -> {
            for (int i = 0; i < level; i++) {
                adds(x, 1, 1);
                x.nest(1);
            }
        });
    }

    /** "a LEVEL (0 at first, 4 at most)"; nest: "FULL". */
    private static void fourLevels() {
        begun(1).due("LEVEL at first", x -> x.of(1, 2), 0);
        for (int level = 0; level < 4; level++) {
            atLevel(level).due("nest at " + level, x -> x.nest(1), level + 1);
        }
        Scene deepest = atLevel(4);
        deepest.due("LEVEL", x -> x.of(1, 2), 4);
        deepest.refused("nest at 4", x -> x.nest(1), Kinds.FULL);
        deepest.due("another's LEVEL", x -> x.nest(2), 1);
        deepest.then(x -> x.join(1)).due("nest again behind join", x -> x.nest(1), 4);
        deepest.then(x -> x.back(1)).due("nest again behind back", x -> x.nest(1), 4);
    }

    /** nest: "BAD; STATE; FULL." */
    private static void nestStates() {
        Scene all = checkedStates();
        all.due("nest of one that RUNS", x -> x.nest(RUNS), 1);
        for (int t : new int[] {WAITS, ENDED, ASKED, LIMITED, RINGED}) {
            all.refused("nest of " + t, x -> x.nest(t), Kinds.STATE);
        }
        Scene full = begun(2).then(x -> {
            for (int i = 0; i < 4; i++) {
                x.nest(1);
            }
            adds(x, 2, 1);
            x.act(1, 0, Kinds.GET, 0, 0);
        });
        full.due("WAITS at LEVEL 4", x -> x.of(1, 0), Kinds.WAITING);
        full.refused("STATE ahead of FULL", x -> x.nest(1), Kinds.STATE);
    }

    /** join: "The innermost LEVEL ends: .. the LEVEL now. BAD; STATE (LEVEL 0, too)." */
    private static void joinStates() {
        Scene all = checkedStates();
        for (int t : new int[] {RUNS, WAITS, ENDED, ASKED, LIMITED, RINGED}) {
            all.refused("join of " + t + " at LEVEL 0", x -> x.join(t), Kinds.STATE);
        }
        for (int level = 1; level <= 4; level++) {
            atLevel(level).due("join at " + level, x -> x.join(1), level - 1);
            atLevel(level).then(x -> x.join(1)).due("ACTS stay", x -> x.of(1, 5), level);
        }
        Scene waits = begun(2).then(x -> {
            x.nest(1);
            adds(x, 2, 1);
            x.act(1, 0, Kinds.GET, 0, 0);
        });
        waits.refused("join of one that WAITS at LEVEL 1", x -> x.join(1), Kinds.STATE);
        waits.due("its LEVEL", x -> x.of(1, 2), 1);
    }

    private static Scene fiveRegisters() {
        return scene(x -> {
            for (int o = 0; o < 5; o++) {
                x.make(Kinds.REGISTER, -1, o);
            }
            x.begin(0);
            x.begin(0);
        });
    }

    /** join: "its locks are those of the one below", and no others. */
    private static void joinLowersItsOwn() {
        Scene three = fiveRegisters().then(x -> {
            x.act(1, 0, Kinds.PUT, 9, 0);
            x.nest(1);
            x.act(1, 1, Kinds.PUT, 9, 0);
            x.nest(1);
            x.act(1, 2, Kinds.PUT, 9, 0);
            x.join(1);
        });
        three.due("locks stay", x -> x.of(1, 10), 3);
        Scene left = three.then(x -> x.back(1));
        left.due("those of LEVEL 1 and the joined one are free", x -> x.of(1, 10), 1);
        left.due("that of LEVEL 0 is held", x -> x.lock(0, 0, 0), 1);
        Scene joined = three.then(x -> {
            x.join(1);
            x.nest(1);
            x.back(1);
        });
        joined.due("joined to LEVEL 0 all are held", x -> x.of(1, 10), 3);
        Scene others = fiveRegisters().then(x -> {
            x.nest(1);
            x.nest(2);
            x.act(1, 0, Kinds.PUT, 9, 0);
            x.act(2, 1, Kinds.PUT, 9, 0);
            x.join(1);
            x.back(2);
        });
        others.due("another's LEVEL is left with its lock", x -> x.of(2, 10), 0);
        others.due("the joined lock is held", x -> x.of(1, 10), 1);
    }

    /** back: "BAD; STATE (LEVEL 0, too)." */
    private static void backStates() {
        Scene all = checkedStates();
        for (int t : new int[] {RUNS, WAITS, ENDED, ASKED, LIMITED, RINGED}) {
            all.refused("back of " + t + " at LEVEL 0", x -> x.back(t), Kinds.STATE);
        }
        Scene waits = begun(2).then(x -> {
            x.nest(1);
            adds(x, 2, 1);
            x.act(1, 0, Kinds.GET, 0, 0);
        });
        waits.refused("back of one that WAITS at LEVEL 1", x -> x.back(1), Kinds.STATE);
        for (int level = 1; level <= 4; level++) {
            Scene at = atLevel(level).then(x -> adds(x, 1, 3));
            at.due("back at " + level, x -> x.back(1), 3);
            at.then(x -> x.back(1)).due("LEVEL behind back", x -> x.of(1, 2), level - 1);
            at.then(x -> x.back(1)).due("VALUE behind back", x -> x.object(0, 2), 10 + level);
        }
    }

    /** A LEVEL without ACTS is left: none are undone. */
    private static void backOfNothing() {
        Scene empty = atLevel(1);
        empty.due("back of an empty LEVEL", x -> x.back(1), 0);
        Scene behind = empty.then(x -> x.back(1));
        behind.due("ACTS below stay", x -> x.of(1, 5), 1);
        behind.due("no row came", x -> x.count(11), empty.house().count(11));
        behind.refused("LEVEL 0 again", x -> x.back(1), Kinds.STATE);
        Scene undone = atLevel(1).then(x -> {
            adds(x, 1, 2);
            x.backTo(1, 1);
        });
        undone.due("back of a LEVEL whose ACTS are undone", x -> x.back(1), 0);
    }

    /** back: "its locks are free again", no others; what waited for them goes on. */
    private static void backFreesItsOwn() {
        Scene held = fiveRegisters().then(x -> {
            x.act(1, 0, Kinds.PUT, 9, 0);
            x.nest(1);
            x.act(1, 0, Kinds.PUT, 9, 0);
            x.act(1, 1, Kinds.PUT, 9, 0);
            x.act(2, 2, Kinds.PUT, 9, 0);
            x.nest(2);
            x.act(2, 3, Kinds.PUT, 9, 0);
            x.act(2, 1, Kinds.GET, 0, 0);
        });
        held.due("2 WAITS", x -> x.of(2, 9), 1);
        Scene behind = held.then(x -> x.back(1));
        behind.due("the lock of LEVEL 0 stays", x -> x.of(1, 10), 1);
        behind.due("its ACT too", x -> x.object(0, 2), 9);
        behind.due("2 went on with what was there", x -> x.of(2, 7), 1);
        behind.due("2 has all its locks", x -> x.of(2, 10), 3);
    }

    /** save: "How many ACTS it has now. BAD; STATE." */
    private static void saves() {
        for (int many : new int[] {0, 1, 2, 50}) {
            begun(1).then(x -> adds(x, 1, many)).due("save behind " + many, x -> x.save(1), many);
        }
        Scene undone = begun(1).then(x -> {
            adds(x, 1, 5);
            x.backTo(1, 2);
        });
        undone.due("save behind backTo", x -> x.save(1), 2);
        Scene found = begun(1).then(x -> x.act(1, 0, Kinds.BY, 0, 0));
        found.due("save behind a FINDING", x -> x.save(1), 0);
        Scene all = checkedStates();
        all.due("save of one that RUNS", x -> x.save(RUNS), 1);
        for (int t : new int[] {WAITS, ENDED, ASKED, LIMITED, RINGED}) {
            all.refused("save of " + t, x -> x.save(t), Kinds.STATE);
        }
    }

    /** backTo: "BAD: more than it has". */
    private static void backToBounds() {
        Scene five = begun(1).then(x -> adds(x, 1, 5));
        for (int acts : new int[] {MIN, -2, -1, 6, 7, MAX}) {
            five.refused("backTo " + acts + " of 5", x -> x.backTo(1, acts), Kinds.BAD);
        }
        for (int acts = 0; acts <= 5; acts++) {
            int to = acts;
            five.due("backTo " + acts + " of 5", x -> x.backTo(1, to), 5 - acts);
            Scene behind = five.then(x -> x.backTo(1, to));
            behind.due("ACTS behind it", x -> x.of(1, 5), acts);
            behind.due("VALUE behind it", x -> x.object(0, 2), 10 + acts);
            behind.due("rows behind it", x -> x.count(11), 2 + 5 + 5 - acts);
            behind.refused("more than it has now", x -> x.backTo(1, to + 1), Kinds.BAD);
        }
        begun(1).due("backTo 0 of none", x -> x.backTo(1, 0), 0);
        begun(1).refused("backTo 1 of none", x -> x.backTo(1, 1), Kinds.BAD);
    }

    /** backTo: "BAD: .. fewer than it had when its LEVEL began". */
    private static void backToAtALevel() {
        Scene outer = begun(1).then(x -> {
            adds(x, 1, 2);
            x.nest(1);
        });
        outer.refused("backTo 1 at the LEVEL's begin", x -> x.backTo(1, 1), Kinds.BAD);
        outer.due("backTo 2 at the LEVEL's begin", x -> x.backTo(1, 2), 0);
        outer.refused("backTo 3 at the LEVEL's begin", x -> x.backTo(1, 3), Kinds.BAD);
        Scene inner = outer.then(x -> {
            adds(x, 1, 2);
            x.nest(1);
            adds(x, 1, 1);
        });
        inner.refused("backTo 3 at LEVEL 2", x -> x.backTo(1, 3), Kinds.BAD);
        inner.due("backTo 4 at LEVEL 2", x -> x.backTo(1, 4), 1);
        inner.due("backTo 5 at LEVEL 2", x -> x.backTo(1, 5), 0);
        Scene joined = inner.then(x -> x.join(1));
        joined.refused("backTo 1 at LEVEL 1 again", x -> x.backTo(1, 1), Kinds.BAD);
        joined.due("backTo 2 at LEVEL 1 again", x -> x.backTo(1, 2), 3);
        joined.due("backTo 3 at LEVEL 1 again", x -> x.backTo(1, 3), 2);
        Scene lowest = joined.then(x -> x.join(1));
        lowest.due("backTo 0 at LEVEL 0 again", x -> x.backTo(1, 0), 5);
        lowest.refused("backTo -1 at LEVEL 0", x -> x.backTo(1, -1), Kinds.BAD);
        Scene again = lowest.then(x -> {
            x.backTo(1, 1);
            x.nest(1);
        });
        again.refused("backTo 0, a new LEVEL's begin", x -> x.backTo(1, 0), Kinds.BAD);
        again.due("backTo 1, a new LEVEL's begin", x -> x.backTo(1, 1), 0);
    }

    /** backTo: "STATE", BAD ahead of it. */
    private static void backToStates() {
        Scene all = checkedStates();
        int[][] ended = {{WAITS, 1}, {ENDED, 0}, {ASKED, 0}, {LIMITED, 0}, {RINGED, 0}};
        for (int[] one : ended) {
            for (int acts = 0; acts <= one[1]; acts++) {
                int to = acts;
                all.refused("backTo of " + one[0], x -> x.backTo(one[0], to), Kinds.STATE);
            }
            all.refused("backTo of " + one[0] + ", more", x -> x.backTo(one[0], one[1] + 1), Kinds.BAD);
            all.refused("backTo of " + one[0] + ", below", x -> x.backTo(one[0], -1), Kinds.BAD);
        }
    }

    /** backTo: "locks stay". */
    private static void backToKeepsLocks() {
        Scene scene = fiveRegisters().then(x -> {
            x.act(1, 0, Kinds.PUT, 9, 0);
            x.act(1, 1, Kinds.PUT, 9, 0);
            x.act(2, 1, Kinds.GET, 0, 0);
        });
        Scene behind = scene.then(x -> x.backTo(1, 0));
        behind.due("locks", x -> x.of(1, 10), 2);
        behind.due("VALUE", x -> x.object(1, 2), 1);
        behind.due("2 WAITS still", x -> x.of(2, 0), Kinds.WAITING);
        behind.then(x -> x.end(1)).due("2 went on behind the END", x -> x.of(2, 7), 1);
    }

    /** end: "BAD; STATE (LEVEL above 0, too)." */
    private static void endStates() {
        Scene all = checkedStates();
        all.due("end of one that RUNS", x -> x.end(RUNS), 2);
        for (int t : new int[] {WAITS, ENDED, ASKED, LIMITED, RINGED}) {
            all.refused("end of " + t, x -> x.end(t), Kinds.STATE);
        }
        atLevel(0).due("end at LEVEL 0", x -> x.end(1), 1);
        for (int level = 1; level <= 4; level++) {
            atLevel(level).refused("end at LEVEL " + level, x -> x.end(1), Kinds.STATE);
        }
        atLevel(1).then(x -> x.join(1)).due("end behind join", x -> x.end(1), 1);
        atLevel(1).then(x -> x.back(1)).due("end behind back", x -> x.end(1), 1);
    }

    /** "its END has the next number, from 1 on" */
    private static void endNumbers() {
        Scene three = begun(3);
        three.due("the first END", x -> x.end(3), 1);
        three.then(x -> x.end(3)).due("the second END", x -> x.end(1), 2);
        Scene ends = three.then(x -> {
            x.end(3);
            x.end(1);
            x.undo(2);
        });
        ends.due("END of 3", x -> x.of(3, 11), 1);
        ends.due("END of 1", x -> x.of(1, 11), 2);
        ends.due("END of one UNDONE", x -> x.of(2, 11), Kinds.NONE);
        begun(1).due("END of one that RUNS", x -> x.of(1, 11), Kinds.NONE);
        begun(1).due("END of one without ACTS", x -> x.end(1), 1);
    }

    /** undo: "UNDONE (ASKED): how many ACTS were. BAD; STATE: it is not under way." */
    private static void undoStates() {
        Scene all = checkedStates();
        all.due("undo of one that RUNS", x -> x.undo(RUNS), 1);
        all.due("undo of one that WAITS", x -> x.undo(WAITS), 1);
        for (int t : new int[] {ENDED, ASKED, LIMITED, RINGED}) {
            all.refused("undo of " + t, x -> x.undo(t), Kinds.STATE);
        }
        begun(1).due("undo of one without ACTS", x -> x.undo(1), 0);
        Scene gone = all.then(x -> x.undo(WAITS));
        gone.due("its state", x -> x.of(WAITS, 0), Kinds.UNDONE);
        gone.due("WHY", x -> x.of(WAITS, 1), 3);
        gone.due("waits nowhere", x -> x.of(WAITS, 9), Kinds.NONE);
        gone.due("no wait is left", x -> x.waits(0, 0, 0), Kinds.NONE);
        gone.due("locks", x -> x.of(WAITS, 10), 0);
    }

    /** "UNDONE as a whole: all its ACTS, its wait and its locks are gone, its LEVEL is 0." */
    private static void undoOfLevels() {
        for (int level = 0; level <= 4; level++) {
            Scene at = atLevel(level).then(x -> adds(x, 1, 1));
            at.due("undo at LEVEL " + level, x -> x.undo(1), level + 1);
            Scene gone = at.then(x -> x.undo(1));
            gone.due("LEVEL", x -> x.of(1, 2), 0);
            gone.due("ACTS", x -> x.of(1, 5), 0);
            gone.due("VALUE", x -> x.object(0, 2), 10);
            gone.due("locks", x -> x.count(7), 0);
        }
    }

    /** retry: "STATE: t is not UNDONE by RING, LIMIT". */
    private static void retryStates() {
        Scene all = checkedStates();
        all.due("retry of one UNDONE by RING", x -> x.retry(RINGED), BEGAN + 1);
        all.due("retry of one UNDONE by LIMIT", x -> x.retry(LIMITED), BEGAN + 1);
        for (int t : new int[] {RUNS, WAITS, ENDED, ASKED}) {
            all.refused("retry of " + t, x -> x.retry(t), Kinds.STATE);
        }
        Scene cut = all.then(x -> x.crash());
        for (int t : new int[] {RUNS, WAITS, ASKED}) {
            cut.refused("retry behind a CUT of " + t, x -> x.retry(t), Kinds.STATE);
        }
        cut.due("retry behind a CUT of one UNDONE by RING before", x -> x.retry(RINGED), BEGAN + 1);
        Scene none = all.then(x -> x.cut(0));
        none.refused("retry of one whose END is cut", x -> x.retry(ENDED), Kinds.STATE);
        none.due("retry of one whose BEGIN is cut", x -> x.retry(LIMITED), BEGAN + 1);
    }

    /** retry: "One begins with the RANK of t, and one TRY more"; of: "4 TRIES (0, but by retry())". */
    private static void retryTries() {
        Scene all = states();
        all.due("TRIES of one that began", x -> x.of(LIMITED, 4), 0);
        Scene once = all.then(x -> x.retry(LIMITED));
        once.due("RANK", x -> x.of(8, 3), LIMITED);
        once.due("TRIES", x -> x.of(8, 4), 1);
        once.due("it RUNS", x -> x.of(8, 0), Kinds.RUNNING);
        once.due("ACTS asked", x -> x.of(8, 6), 0);
        once.due("the old one is as before", x -> x.of(LIMITED, 4), 0);
        Scene twice = once.then(x -> x.retry(LIMITED));
        twice.due("TRIES of another retry of the same", x -> x.of(9, 4), 1);
        Scene chain = once.then(x -> {
            x.limit(1);
            x.act(8, 4, Kinds.GET, 0, 0);
            x.act(8, 4, Kinds.GET, 0, 0);
            x.retry(8);
        });
        chain.due("TRIES of a retry of a retry", x -> x.of(9, 4), 2);
        chain.due("its RANK", x -> x.of(9, 3), LIMITED);
        chain.due("its row", x -> x.row(x.count(11) - 1, 0), 1);
    }

    /** of: "BAD", of a number that none has. */
    private static void ofNumbers() {
        Scene all = states();
        for (int t : new int[] {MIN, -1, 0, BEGAN + 1, 400, 401, MAX}) {
            for (int what : new int[] {0, 3, 11}) {
                all.refused("of(" + t + ", " + what + ")", x -> x.of(t, what), Kinds.BAD);
            }
        }
        all.due("of(1, 3)", x -> x.of(1, 3), 1);
        all.due("of(7, 3)", x -> x.of(BEGAN, 3), BEGAN);
    }

    /** of: what is 0 to 11. */
    private static void ofWhats() {
        Scene all = states();
        for (int t = 1; t <= BEGAN; t++) {
            int one = t;
            for (int what : new int[] {MIN, -1, 12, 13, MAX}) {
                all.refused("of(" + t + ", " + what + ")", x -> x.of(one, what), Kinds.BAD);
            }
        }
        int[][] due = {{RUNS, 1, 0, 0, 1, 0, 1, 1, 3, 0, Kinds.NONE, 1, Kinds.NONE},
            {WAITS, 2, 0, 0, 2, 0, 1, 2, 2, 0, 0, 1, Kinds.NONE},
            {ENDED, 3, 0, 0, 3, 0, 0, 0, 0, 0, Kinds.NONE, 0, 1},
            {ASKED, 4, 3, 0, 4, 0, 0, 1, 4, 0, Kinds.NONE, 0, Kinds.NONE},
            {LIMITED, 4, 2, 0, 5, 0, 0, 1, 4, 0, Kinds.NONE, 0, Kinds.NONE},
            {RINGED, 4, 1, 0, 6, 0, 0, 2, 1, 0, Kinds.NONE, 0, Kinds.NONE},
            {HOLDS, 1, 0, 0, 7, 0, 2, 2, 1, 0, Kinds.NONE, 2, Kinds.NONE}};
        for (int[] one : due) {
            for (int what = 0; what < 12; what++) {
                int asked = what;
                all.due("of(" + one[0] + ", " + what + ")", x -> x.of(one[0], asked), one[what + 1]);
            }
        }
    }
}
