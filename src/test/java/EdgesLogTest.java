/**
 * The edges that ENDED, THE LOG and CUT and promises 20 group, 21 rest, 22 cut, 23 crash, 24 row, 25 ended,
 * 26 version, 29 serial and 31 count name: just inside, on, just outside; what is refused changes nothing.
 */
public final class EdgesLogTest {
    private static final Check CHECK = new Check("EdgesLogTest");
    private static final int MIN = Integer.MIN_VALUE, MAX = Integer.MAX_VALUE;

    public static void main(String[] args) {
        groupBounds();
        forcedByGroup();
        forcedSince();
        groupLowered();
        hundredRests();
        restStates();
        restRows();
        cutBounds();
        cutAtAnyRow();
        cutOfContents();
        cutOfTransactions();
        cutOfLevels();
        cutOfCounts();
        crashes();
        rowNumbers();
        rowWhats();
        rowsOfEach();
        undoneRows();
        endedNumbers();
        versionNumbers();
        sixteenVersions();
        versionsOfEachKind();
        versionsOfTwo();
        versionsOfNothingElse();
        versionsBehindACut();
        lateObjects();
        serials();
        countWhats();
        countsOfEach();
        CHECK.close();
    }

    private static Scene scene(Scene.Story story) {
        return new Scene(CHECK, story);
    }

    private static Scene counter() {
        return scene(x -> x.make(Kinds.COUNTER, -1, 100));
    }

    /** So many, one after the other: each adds 1 to OBJECT o and ends; three rows each. */
    private static void ends(HoldHouse x, int o, int many) {
        for (int i = 0; i < many; i++) {
            int t = x.begin(0);
            x.act(t, o, Kinds.ADD, 1, 0);
            x.end(t);
        }
    }

    /** group: "ENDS force by so many (1 to 20): what it was. BAD." */
    private static void groupBounds() {
        Scene fresh = counter();
        for (int n : new int[] {MIN, -1, 0, 21, 22, MAX}) {
            fresh.refused("group(" + n + ")", x -> x.group(n), Kinds.BAD);
            fresh.then(x -> x.group(9)).refused("group(" + n + ") behind 9", x -> x.group(n), Kinds.BAD);
        }
        for (int n : new int[] {1, 2, 19, 20}) {
            fresh.due("group(" + n + ")", x -> x.group(n), 1);
            Scene set = fresh.then(x -> x.group(n));
            set.due("group", x -> x.count(17), n);
            set.due("what it was", x -> x.group(7), n);
            set.due("forces nothing", x -> x.count(12), 0);
            set.then(x -> x.crash()).due("it stays over a CUT", x -> x.count(17), n);
        }
    }

    /** "END forces all, if it is the n-th one or more" */
    private static void forcedByGroup() {
        counter().due("MADE forces nothing", x -> x.count(12), 0);
        counter().then(x -> x.begin(0)).due("BEGIN forces nothing", x -> x.count(12), 0);
        counter().then(x -> ends(x, 0, 1)).due("1 at first", x -> x.count(12), 4);
        for (int n : new int[] {1, 2, 3, 19, 20}) {
            Scene less = counter().then(x -> {
                x.group(n);
                ends(x, 0, n - 1);
            });
            less.due("ENDS fewer than " + n, x -> x.count(12), 0);
            Scene all = less.then(x -> ends(x, 0, 1));
            all.due("the END " + n, x -> x.count(12), 1 + 3 * n);
            Scene more = all.then(x -> ends(x, 0, n - 1));
            more.due("fewer once more", x -> x.count(12), 1 + 3 * n);
            more.then(x -> ends(x, 0, 1)).due("as many once more", x -> x.count(12), 1 + 6 * n);
        }
        Scene undone = counter().then(x -> {
            x.group(2);
            ends(x, 0, 1);
            x.begin(0);
            x.undo(2);
        });
        undone.due("undoing forces nothing", x -> x.count(12), 0);
        Scene under = counter().then(x -> {
            x.begin(0);
            x.act(1, 0, Kinds.ADD, 1, 0);
            ends(x, 0, 1);
        });
        under.due("all rows, those of others too", x -> x.count(12), 6);
        under.then(x -> x.act(1, 0, Kinds.ADD, 1, 0)).due("rows behind it are not", x -> x.count(12), 6);
    }

    /** "since one, rest() or a CUT did" */
    private static void forcedSince() {
        Scene two = counter().then(x -> {
            x.group(3);
            ends(x, 0, 2);
        });
        two.then(x -> {
            x.rest();
            ends(x, 0, 2);
        }).due("two since rest()", x -> x.count(12), 8);
        two.then(x -> {
            x.rest();
            ends(x, 0, 3);
        }).due("three since rest()", x -> x.count(12), 17);
        two.then(x -> {
            x.cut(7);
            ends(x, 0, 2);
        }).due("two since a CUT", x -> x.count(12), 7);
        two.then(x -> {
            x.cut(7);
            ends(x, 0, 3);
        }).due("three since a CUT", x -> x.count(12), 16);
        two.then(x -> {
            x.crash();
            x.make(Kinds.COUNTER, -1, 0);
            ends(x, 0, 2);
        }).due("two since a crash", x -> x.count(12), 0);
        two.then(x -> {
            x.cut(8);
            ends(x, 0, 1);
        }).due("a CUT that is refused is none", x -> x.count(12), 10);
        two.then(x -> {
            x.begin(0);
            x.rest();
            x.end(3);
        }).due("a rest() that is refused is none", x -> x.count(12), 9);
    }

    /** "the n-th one or more": n by the group() of now. */
    private static void groupLowered() {
        for (int n = 1; n <= 6; n++) {
            int now = n;
            Scene four = counter().then(x -> {
                x.group(20);
                ends(x, 0, 4);
                x.group(now);
            });
            four.due("nothing by group() alone", x -> x.count(12), 0);
            four.then(x -> ends(x, 0, 1)).due("the fifth END, group " + n, x -> x.count(12), n <= 5 ? 16 : 0);
        }
    }

    private static void rests(HoldHouse x, int many) {
        for (int i = 0; i < many; i++) {
            x.rest();
        }
    }

    /** rest: "FULL: 100 REST came in all (CUTS or not)". */
    private static void hundredRests() {
        scene(x -> rests(x, 98)).due("the 99th", x -> x.rest(), 99);
        scene(x -> rests(x, 99)).due("the 100th", x -> x.rest(), 100);
        Scene all = scene(x -> rests(x, 100));
        all.refused("the 101st", x -> x.rest(), Kinds.FULL);
        all.due("rows", x -> x.count(11), 100);
        Scene cut = scene(x -> {
            rests(x, 60);
            x.cut(0);
            rests(x, 39);
        });
        cut.due("the 100th behind a CUT", x -> x.rest(), 40);
        cut.then(x -> x.rest()).refused("the 101st behind a CUT", x -> x.rest(), Kinds.FULL);
        all.then(x -> x.cut(0)).refused("the 101st, all others cut", x -> x.rest(), Kinds.FULL);
        Scene refused = scene(x -> {
            x.begin(0);
            rests(x, 50);
            x.end(1);
            rests(x, 99);
        });
        refused.due("those refused do not count", x -> x.rest(), 102);
        all.then(x -> x.begin(0)).refused("STATE ahead of FULL", x -> x.rest(), Kinds.STATE);
    }

    /** rest: "STATE: one is under way". */
    private static void restStates() {
        Scene one = counter().then(x -> x.begin(0));
        one.refused("rest while one RUNS", x -> x.rest(), Kinds.STATE);
        one.then(x -> x.end(1)).due("rest behind its END", x -> x.rest(), 4);
        one.then(x -> x.undo(1)).due("rest behind its undoing", x -> x.rest(), 4);
        one.then(x -> x.crash()).due("rest behind a CUT", x -> x.rest(), 1);
        Scene waits = one.then(x -> {
            x.begin(0);
            x.act(1, 0, Kinds.ADD, 1, 0);
            x.act(2, 0, Kinds.GET, 0, 0);
        });
        waits.refused("rest while one WAITS", x -> x.rest(), Kinds.STATE);
        waits.then(x -> x.undo(1)).refused("rest while the other RUNS", x -> x.rest(), Kinds.STATE);
    }

    /** rest: "REST: a row, all rows are FORCED: how many there are." */
    private static void restRows() {
        scene(x -> { }).due("rest of nothing", x -> x.rest(), 1);
        Scene two = counter().then(x -> {
            x.group(20);
            ends(x, 0, 1);
        });
        two.due("not forced", x -> x.count(12), 0);
        two.due("rest", x -> x.rest(), 5);
        Scene rested = two.then(x -> x.rest());
        rested.due("forced, the row of REST too", x -> x.count(12), 5);
        rested.then(x -> x.crash()).due("a crash keeps it", x -> x.row(4, 0), 6);
        rested.then(x -> x.cut(4)).due("a CUT does not", x -> x.row(4, 0), Kinds.NONE);
    }

    /** cut: "CUT at n: how many ENDS stay. BAD: there are not so many rows." */
    private static void cutBounds() {
        Scene two = counter().then(x -> ends(x, 0, 2));
        two.due("rows", x -> x.count(11), 7);
        for (int n : new int[] {MIN, -1, 8, 9, MAX}) {
            two.refused("cut(" + n + ")", x -> x.cut(n), Kinds.BAD);
        }
        int[] stay = {0, 0, 0, 0, 1, 1, 1, 2};
        for (int n = 0; n <= 7; n++) {
            int at = n;
            two.due("cut(" + n + ")", x -> x.cut(at), stay[n]);
            two.then(x -> x.cut(at)).refused("cut of one more behind it", x -> x.cut(at + 1), Kinds.BAD);
        }
        scene(x -> { }).due("cut(0) of nothing", x -> x.cut(0), 0);
        scene(x -> { }).refused("cut(1) of nothing", x -> x.cut(1), Kinds.BAD);
        two.then(x -> x.begin(0)).refused("cut too far while one RUNS", x -> x.cut(9), Kinds.BAD);
    }

    private static void act(HoldHouse x, int t, int... act) {
        CHECK.due("act before", x.act(t, act[0], act[1], act[2], act.length > 3 ? act[3] : 0), 1);
    }

    /** Rows of every sort, three ENDS, OBJECTS made between, some under way. */
    private static Scene longLog() {
        return scene(x -> {
            x.make(Kinds.FOLDER, -1, 0);
            x.make(Kinds.COUNTER, 0, 5);
            x.make(Kinds.QUEUE, -1, 0);
            x.make(Kinds.MAP, 0, 0);
            x.group(2);
            x.begin(11);
            x.begin(12);
            act(x, 1, 1, Kinds.ADD, 3);
            act(x, 2, 2, Kinds.ENTER, 4);
            act(x, 2, 2, Kinds.ENTER, 6);
            act(x, 1, 3, Kinds.STORE, 2, 9);
            x.backTo(2, 1);
            x.end(2);
            act(x, 1, 1, Kinds.ADD, 30);
            x.end(1);
            x.rest();
            x.make(Kinds.SLOT, 0, 0);
            x.make(Kinds.SET, -1, 0);
            x.begin(13);
            x.begin(14);
            act(x, 3, 4, Kinds.POINT, 1);
            act(x, 4, 5, Kinds.INSERT, 31);
            act(x, 3, 4, Kinds.BUMP, 7);
            x.undo(4);
            act(x, 3, 2, Kinds.LEAVE, 0);
            x.end(3);
            x.begin(15);
            x.begin(16);
            act(x, 5, 2, Kinds.ENTER, 99);
            x.nest(5);
            act(x, 5, 3, Kinds.DROP, 2);
            x.act(6, 2, Kinds.SIZE, 0, 0);
        });
    }

    /** "a log that may be cut at any row": "the first n rows stay, all of them FORCED"; all else as the rows tell. */
    private static void cutAtAnyRow() {
        Scene whole = longLog();
        int rows = whole.house().count(11);
        for (int n = 0; n <= rows; n++) {
            HoldHouse before = whole.house();
            int made = 0;
            int ends = 0;
            for (int i = 0; i < n; i++) {
                made += before.row(i, 0) == 0 ? 1 : 0;
                ends += before.row(i, 0) == 4 ? 1 : 0;
            }
            HoldHouse x = whole.house();
            CHECK.due("cut(" + n + ")", x.cut(n), ends);
            CHECK.due("rows", x.count(11), n);
            CHECK.due("FORCED", x.count(12), n);
            CHECK.due("OBJECTS", x.count(0), made);
            CHECK.due("ENDS", x.count(4), ends);
            CHECK.due("RUNNING", x.count(2), 0);
            CHECK.due("WAITING", x.count(3), 0);
            CHECK.due("began in all", x.count(1), 6);
            CHECK.due("locks", x.count(7), 0);
            CHECK.due("UNDONE in all", x.count(5), 6 - ends);
            CHECK.due("no row more", x.row(n, 0), Kinds.NONE);
            CHECK.due("no OBJECT more", x.object(made, 0), Kinds.BAD);
            CHECK.due("no END more", x.ended(ends + 1), Kinds.NONE);
            CHECK.due("serial", x.serial(), 1);
            for (int o = 0; o < made; o++) {
                CHECK.due("OBJECT " + o, x.object(o, 2), before.version(o, ends));
                CHECK.due("KEPT " + o, x.object(o, 3), before.version(o, ends));
                CHECK.due("SORT of " + o, x.object(o, 0), before.object(o, 0));
                CHECK.due("PARENT of " + o, x.object(o, 1), before.object(o, 1));
                for (int e = 0; e <= ends; e++) {
                    CHECK.due("VERSION of " + o, x.version(o, e), before.version(o, e));
                }
                CHECK.due("no VERSION more of " + o, x.version(o, 3), before.version(o, ends));
            }
            rowsStay(whole, n);
        }
    }

    private static void rowsStay(Scene whole, int n) {
        HoldHouse before = whole.house();
        HoldHouse x = whole.house();
        x.cut(n);
        for (int i = 0; i < n; i++) {
            for (int what = 0; what < 8; what++) {
                CHECK.due("row(" + i + ", " + what + ") behind cut(" + n + ")", x.row(i, what), before.row(i, what));
            }
        }
    }

    private static void answers(Scene scene, String name, int o, int kind, int a, int want) {
        scene.then(x -> {
            int t = x.begin(0);
            x.act(t, o, kind, a, 0);
        }).due(name, x -> x.of(x.count(1), 7), want);
    }

    /** "OBJECTS and THE KEPT are what the rows make of them": what a QUEUE, a MAP, a SET have, too. */
    private static void cutOfContents() {
        Scene scene = scene(x -> {
            x.make(Kinds.QUEUE, -1, 0);
            x.make(Kinds.MAP, -1, 0);
            x.make(Kinds.SET, -1, 0);
            x.begin(0);
            act(x, 1, 0, Kinds.ENTER, 4);
            act(x, 1, 0, Kinds.ENTER, 5);
            act(x, 1, 1, Kinds.STORE, 0, 6);
            act(x, 1, 1, Kinds.STORE, 7, 7);
            act(x, 1, 2, Kinds.INSERT, 31);
            x.end(1);
            x.begin(0);
            act(x, 2, 0, Kinds.LEAVE, 0);
            act(x, 2, 0, Kinds.ENTER, 8);
            act(x, 2, 1, Kinds.STORE, 0, 60);
            act(x, 2, 1, Kinds.DROP, 7);
            act(x, 2, 2, Kinds.DELETE, 31);
        });
        for (int ended = 0; ended <= 1; ended++) {
            boolean end = ended == 1;
            Scene cut = scene.then(x -> {
                if (end) {
                    x.end(2);
                }
                x.cut(10);
            });
            answers(cut, "the first one", 0, Kinds.AT, 0, 4);
            answers(cut, "the second one", 0, Kinds.AT, 1, 5);
            answers(cut, "how many", 0, Kinds.SIZE, 0, 2);
            answers(cut, "KEY 0", 1, Kinds.LOOK, 0, 6);
            answers(cut, "KEY 7", 1, Kinds.LOOK, 7, 7);
            answers(cut, "31", 2, Kinds.HAS, 31, 1);
            cut.due("as THE KEPT", x -> x.object(0, 2), cut.house().object(0, 3));
        }
        Scene less = scene.then(x -> x.cut(3));
        answers(less, "nothing in the QUEUE", 0, Kinds.SIZE, 0, 0);
        answers(less, "nothing in the MAP", 1, Kinds.SIZE, 0, 0);
        answers(less, "nothing in the SET", 2, Kinds.SIZE, 0, 0);
        Scene other = scene.then(x -> {
            x.cut(0);
            x.make(Kinds.MAP, -1, 0);
            x.make(Kinds.QUEUE, -1, 0);
            x.make(Kinds.SLOT, -1, 0);
        });
        answers(other, "nothing in a MAP where a QUEUE was", 0, Kinds.SIZE, 0, 0);
        answers(other, "nothing in a QUEUE where a MAP was", 1, Kinds.SIZE, 0, 0);
        answers(other, "-1 in a SLOT where a SET was", 2, Kinds.GET, 0, -1);
    }

    /** "those whose END is gone, or that were under way, are UNDONE (4; WHY of those UNDONE before stays)" */
    private static void cutOfTransactions() {
        Scene whole = longLog();
        int[] kept = {0, 3, 3, 3, 4, 4, 4};
        int[] whys = {0, 0, 0, 0, 3, 4, 4};
        int[] ends = {0, 2, 1, 3, Kinds.NONE, Kinds.NONE, Kinds.NONE};
        Scene all = whole.then(x -> x.cut(x.count(11)));
        Scene none = whole.then(x -> x.cut(0));
        for (int t = 1; t <= 6; t++) {
            int one = t;
            all.due("state of " + t, x -> x.of(one, 0), kept[t]);
            all.due("WHY of " + t, x -> x.of(one, 1), whys[t]);
            all.due("END of " + t, x -> x.of(one, 11), ends[t]);
            none.due("state of " + t + " without rows", x -> x.of(one, 0), Kinds.UNDONE);
            none.due("WHY of " + t + " without rows", x -> x.of(one, 1), t == 4 ? 3 : 4);
            none.due("END of " + t + " without rows", x -> x.of(one, 11), Kinds.NONE);
            none.due("ACTS of " + t + " without rows", x -> x.of(one, 5), 0);
            for (int what : new int[] {3, 4, 6, 7, 8}) {
                int before = whole.house().of(one, what);
                none.due("of(" + t + ", " + what + ") stays", x -> x.of(one, what), before);
                all.due("of(" + t + ", " + what + ") stays", x -> x.of(one, what), before);
            }
        }
        all.due("ACTS of one whose END stays", x -> x.of(1, 5), 3);
        none.due("trace stays", x -> x.trace(0), whole.house().trace(0));
        none.due("the next TRANSACTION", x -> x.begin(0), 7);
    }

    /** "without ACTS, at LEVEL 0, without an END"; and none of its locks, no wait. */
    private static void cutOfLevels() {
        Scene whole = longLog();
        whole.due("LEVEL before", x -> x.of(5, 2), 1);
        whole.due("ACTS before", x -> x.of(5, 5), 2);
        whole.due("6 WAITS before", x -> x.of(6, 9), 2);
        Scene cut = whole.then(x -> x.crash());
        for (int t = 5; t <= 6; t++) {
            int one = t;
            cut.due("LEVEL of " + t, x -> x.of(one, 2), 0);
            cut.due("ACTS of " + t, x -> x.of(one, 5), 0);
            cut.due("waits nowhere: " + t, x -> x.of(one, 9), Kinds.NONE);
            cut.due("locks of " + t, x -> x.of(one, 10), 0);
            cut.refused("nest of " + t, x -> x.nest(one), Kinds.STATE);
            cut.refused("undo of " + t, x -> x.undo(one), Kinds.STATE);
            cut.refused("act of " + t, x -> x.act(one, 0, Kinds.SUM, 0, 0), Kinds.STATE);
            cut.refused("end of " + t, x -> x.end(one), Kinds.STATE);
        }
        cut.due("make goes again", x -> x.make(Kinds.SET, -1, 0), cut.house().count(0));
    }

    /** count: "(1, 5, 6, 8, 9, 10, 13 in all, CUTS or not; 5: those by a CUT, too.)" */
    private static void cutOfCounts() {
        Scene whole = longLog().then(x -> x.act(5, 1, Kinds.BY, 0, 0));
        HoldHouse before = whole.house();
        Scene none = whole.then(x -> x.cut(0));
        for (int what : new int[] {1, 6, 8, 9, 10, 13, 14, 15, 16, 17}) {
            none.due("count(" + what + ") stays", x -> x.count(what), before.count(what));
        }
        none.due("UNDONE, those by the CUT too", x -> x.count(5), 6);
        none.then(x -> x.cut(0)).due("none is UNDONE twice", x -> x.count(5), 6);
        for (int what : new int[] {0, 2, 3, 4, 7, 11, 12}) {
            none.due("count(" + what + ") is 0", x -> x.count(what), 0);
        }
        CHECK.due("DONE in all", before.count(9), 11);
        CHECK.due("FINDINGS in all", before.count(10), 1);
    }

    /** crash: "CUT at what is FORCED: how many ENDS stay." */
    private static void crashes() {
        scene(x -> { }).due("crash of nothing", x -> x.crash(), 0);
        Scene none = counter().then(x -> {
            x.group(3);
            ends(x, 0, 2);
        });
        none.due("nothing is forced", x -> x.crash(), 0);
        none.then(x -> x.crash()).due("no OBJECT is left", x -> x.count(0), 0);
        Scene three = none.then(x -> ends(x, 0, 1));
        three.due("all is forced", x -> x.crash(), 3);
        three.then(x -> x.crash()).due("rows stay", x -> x.count(11), 10);
        Scene five = three.then(x -> ends(x, 0, 2));
        five.due("two are not", x -> x.crash(), 3);
        five.then(x -> x.crash()).due("value", x -> x.object(0, 2), 103);
        five.then(x -> x.crash()).due("the fourth is UNDONE", x -> x.of(4, 1), 4);
        five.then(x -> x.crash()).due("again", x -> x.crash(), 3);
        five.then(x -> x.cut(14)).due("behind a CUT all is forced", x -> x.crash(), 4);
        five.then(x -> x.rest()).due("behind rest() too", x -> x.crash(), 5);
    }

    /** row: "Of row i of THE LOG .. NONE". */
    private static void rowNumbers() {
        Scene whole = longLog();
        int rows = whole.house().count(11);
        for (int what = 0; what < 8; what++) {
            int asked = what;
            for (int i : new int[] {MIN, -1, rows, rows + 1, MAX}) {
                whole.due("row(" + i + ", " + what + ")", x -> x.row(i, asked), Kinds.NONE);
            }
            scene(x -> { }).due("no row 0", x -> x.row(0, asked), Kinds.NONE);
        }
        whole.due("the first row", x -> x.row(0, 0), 0);
        whole.due("the last row", x -> x.row(rows - 1, 0), 2);
    }

    /** row: "BAD: what", 0 to 7, of each row. */
    private static void rowWhats() {
        Scene whole = longLog();
        int rows = whole.house().count(11);
        for (int what : new int[] {MIN, -1, 8, 9, MAX}) {
            whole.refused("row(0, " + what + ")", x -> x.row(0, what), Kinds.BAD);
            for (int i = 0; i < rows; i++) {
                int one = i;
                whole.due("row(" + i + ", " + what + ")", x -> x.row(one, what), Kinds.BAD);
            }
            whole.due("BAD ahead of NONE", x -> x.row(rows, what), Kinds.BAD);
            whole.due("BAD ahead of NONE", x -> x.row(-1, what), Kinds.BAD);
        }
    }

    /** Each sort of row, every part of it, "-1" and "0 where nothing is told". */
    private static void rowsOfEach() {
        Scene whole = longLog();
        // The number of the row, then its parts.
        int[][] due = {{0, 0, 0, 0, 0, 0, -1, 0, -1}, {1, 0, 0, 1, 1, 5, 0, 0, -1}, {2, 0, 0, 2, 4, 0, -1, 0, -1},
            {4, 1, 1, -1, -1, 0, 0, 0, -1}, {6, 2, 1, 1, 1, 3, 0, 3, -1}, {8, 2, 2, 2, 8, 6, 0, 1, -1},
            {9, 2, 1, 3, 12, 2, 9, 0, -1}, {10, 3, 2, 2, 8, 6, 0, 1, 8}, {11, 4, 2, -1, -1, 0, 0, 1, -1},
            {13, 4, 1, -1, -1, 0, 0, 2, -1}, {14, 6, 0, -1, -1, 0, 0, 0, -1}, {15, 0, 0, 4, 7, 0, 0, 0, -1},
            {21, 2, 3, 4, 18, 7, 1, 7, -1}, {22, 3, 4, 5, 4, 31, 0, 1, 20}, {23, 5, 4, -1, -1, 0, 0, 0, -1},
            {24, 2, 3, 2, 9, 0, 0, 4, -1}, {25, 4, 3, -1, -1, 0, 0, 3, -1}};
        for (int[] row : due) {
            for (int what = 0; what < 8; what++) {
                int asked = what;
                whole.due("row(" + row[0] + ", " + what + ")", x -> x.row(row[0], asked), row[what + 1]);
            }
        }
    }

    /** "3 UNDONE ACT": the latest first; "5 GONE (.. behind its 3)". */
    private static void undoneRows() {
        Scene three = counter().then(x -> {
            x.begin(0);
            for (int i = 1; i <= 3; i++) {
                act(x, 1, 0, Kinds.ADD, i);
            }
        });
        Scene gone = three.then(x -> x.undo(1));
        for (int i = 0; i < 3; i++) {
            int row = 5 + i;
            int undoes = 4 - i;
            gone.due("row 3", x -> x.row(row, 0), 3);
            gone.due("what it undid", x -> x.row(row, 7), undoes);
            gone.due("its a", x -> x.row(row, 4), 3 - i);
        }
        gone.due("then GONE", x -> x.row(8, 0), 5);
        gone.due("no row more", x -> x.count(11), 9);
        Scene none = counter().then(x -> {
            x.begin(0);
            x.undo(1);
        });
        none.due("GONE alone, of one without ACTS", x -> x.row(2, 0), 5);
        none.due("no row more", x -> x.count(11), 3);
        Scene partly = three.then(x -> {
            x.backTo(1, 2);
            x.undo(1);
        });
        partly.due("none is undone twice", x -> x.count(11), 9);
        partly.due("the second one", x -> x.row(6, 7), 3);
        partly.due("the first one", x -> x.row(7, 7), 2);
    }

    /** ended: "The TRANSACTION of END e. NONE.", from 1 on. */
    private static void endedNumbers() {
        Scene three = counter().then(x -> {
            x.begin(0);
            x.begin(0);
            x.begin(0);
            x.end(3);
            x.undo(1);
            x.end(2);
        });
        for (int e : new int[] {MIN, -1, 0, 3, 4, MAX}) {
            three.due("ended(" + e + ")", x -> x.ended(e), Kinds.NONE);
        }
        three.due("ended(1)", x -> x.ended(1), 3);
        three.due("ended(2)", x -> x.ended(2), 2);
        scene(x -> { }).due("ended(1) of none", x -> x.ended(1), Kinds.NONE);
        Scene cut = three.then(x -> {
            x.cut(5);
            x.begin(0);
            x.end(4);
        });
        cut.due("the next number behind a CUT", x -> x.ended(2), 4);
        cut.due("no third", x -> x.ended(3), Kinds.NONE);
    }

    /** version: "BAD: o, e below 0". */
    private static void versionNumbers() {
        Scene two = counter().then(x -> ends(x, 0, 2));
        for (int o : new int[] {MIN, -1, 1, 39, 40, MAX}) {
            two.refused("version(" + o + ", 0)", x -> x.version(o, 0), Kinds.BAD);
        }
        for (int e : new int[] {MIN, -2, -1}) {
            two.refused("version(0, " + e + ")", x -> x.version(0, e), Kinds.BAD);
        }
        int[][] told = {{0, 100}, {1, 101}, {2, 102}, {3, 102}, {MAX, 102}};
        for (int[] one : told) {
            two.due("version(0, " + one[0] + ")", x -> x.version(0, one[0]), one[1]);
        }
    }

    /** "the latest 16 of each are told, 0 being one"; version: "OLD: it is not told any more". */
    private static void sixteenVersions() {
        for (int many : new int[] {0, 1, 14, 15, 16, 17, 31, 32, 40}) {
            Scene ended = counter().then(x -> ends(x, 0, many));
            for (int e = 0; e <= many + 1; e++) {
                int end = e;
                int want = e < many - 15 ? Kinds.OLD : 100 + Math.min(e, many);
                ended.due("version(0, " + e + ") behind " + many + " ENDS", x -> x.version(0, end), want);
            }
        }
        Scene others = scene(x -> {
            x.make(Kinds.COUNTER, -1, 100);
            x.make(Kinds.COUNTER, -1, 500);
            ends(x, 1, 20);
            ends(x, 0, 15);
            ends(x, 1, 5);
        });
        others.due("0 of the one with 15", x -> x.version(0, 0), 100);
        others.due("20 of the one with 15", x -> x.version(0, 20), 100);
        others.due("21 of the one with 15", x -> x.version(0, 21), 101);
        others.due("40 of the one with 15", x -> x.version(0, 40), 115);
        // The other has versions 0, 1 to 20, 36 to 40: the latest 16 are 10 to 20, 36 to 40.
        others.due("9 of the other", x -> x.version(1, 9), Kinds.OLD);
        others.due("10 of the other", x -> x.version(1, 10), 510);
        others.due("35 of the other", x -> x.version(1, 35), 520);
        others.due("36 of the other", x -> x.version(1, 36), 521);
        Scene same = counter().then(x -> {
            int t = x.begin(0);
            for (int i = 0; i < 20; i++) {
                x.act(t, 0, Kinds.ADD, 1, 0);
            }
            x.end(t);
        });
        same.due("many ACTS of one END are one VERSION", x -> x.version(0, 0), 100);
        same.due("behind all of them", x -> x.version(0, 1), 120);
    }

    /** "each OBJECT on which one of them WRITES has a VERSION", "also if nothing is another one". */
    private static void versionsOfEachKind() {
        int[][] acts = {{1, Kinds.GET, 0, 0}, {1, Kinds.ADD, 0, 1}, {1, Kinds.BY, 1, 1}, {1, Kinds.HOLD, 0, 0},
            {1, Kinds.HOLD, 1, 0}, {2, Kinds.GET, 0, 0}, {2, Kinds.PUT, 5, 1}, {3, Kinds.INSERT, 1, 1},
            {3, Kinds.DELETE, 2, 1}, {3, Kinds.HAS, 1, 0}, {3, Kinds.SIZE, 0, 0}, {4, Kinds.AT, 0, 0},
            {4, Kinds.FIRST, 0, 0}, {4, Kinds.SIZE, 0, 0}, {5, Kinds.STORE, 1, 1}, {5, Kinds.LOOK, 0, 0},
            {5, Kinds.SIZE, 0, 0}, {6, Kinds.GET, 0, 0}, {6, Kinds.ADD, 0, 1}, {6, Kinds.BY, 1, 1},
            {6, Kinds.PAY, 0, 1}, {6, Kinds.DRAW, 0, 1}, {7, Kinds.GET, 0, 0}, {7, Kinds.POINT, -1, 1},
            {0, Kinds.SUM, 0, 0}, {0, Kinds.HOLD, 1, 0}};
        for (int[] act : acts) {
            Scene scene = scene(x -> {
                x.make(act[0], -1, 5);
                // What a QUEUE and a MAP must have for AT and LOOK to be DONE; it is a VERSION too.
                x.begin(0);
                x.act(1, 0, act[0] == Kinds.QUEUE ? Kinds.ENTER : Kinds.STORE, 0, 0);
                x.end(1);
                for (int e = 2; e <= 17; e++) {
                    x.begin(0);
                    act(x, e, 0, act[1], act[2]);
                    x.end(e);
                }
            });
            int asMade = scene(x -> x.make(act[0], -1, 5)).house().object(0, 2);
            scene.due("SORT " + act[0] + " KIND " + act[1], x -> x.version(0, 0), act[3] == 1 ? Kinds.OLD : asMade);
        }
        Scene queue = scene(x -> {
            x.make(Kinds.QUEUE, -1, 0);
            x.make(Kinds.MAP, -1, 0);
            for (int t = 1; t <= 16; t++) {
                x.begin(0);
                act(x, t, 0, t % 2 == 1 ? Kinds.ENTER : Kinds.LEAVE, 0);
                act(x, t, 1, t % 2 == 1 ? Kinds.STORE : Kinds.DROP, 0);
                x.end(t);
            }
        });
        queue.due("ENTER and LEAVE", x -> x.version(0, 0), Kinds.OLD);
        queue.due("ENTER", x -> x.version(0, 1), 17 * 31);
        queue.due("LEAVE", x -> x.version(0, 2), 17);
        queue.due("STORE and DROP", x -> x.version(1, 0), Kinds.OLD);
    }

    /** "18: that of the number; 19: both; not 21" */
    private static void versionsOfTwo() {
        Scene scene = scene(x -> {
            x.make(Kinds.SLOT, -1, 0);
            x.make(Kinds.ACCOUNT, -1, 50);
            x.make(Kinds.ACCOUNT, -1, 50);
            x.make(Kinds.COUNTER, -1, 50);
            x.begin(0);
            act(x, 1, 0, Kinds.POINT, 3);
            x.end(1);
        });
        Scene bumps = scene.then(x -> {
            for (int t = 2; t <= 17; t++) {
                x.begin(0);
                act(x, t, 0, Kinds.BUMP, 1);
                x.end(t);
            }
        });
        bumps.due("BUMP: the OBJECT of the number", x -> x.version(3, 0), Kinds.OLD);
        bumps.due("its latest", x -> x.version(3, 17), 66);
        bumps.due("BUMP: not the SLOT", x -> x.version(0, 0), -1);
        bumps.due("BUMP: no other", x -> x.version(1, 0), 50);
        bumps.due("BUMP: no other", x -> x.version(2, 0), 50);
        for (int from = 1; from <= 2; from++) {
            int o = from;
            Scene moves = scene.then(x -> {
                for (int t = 2; t <= 17; t++) {
                    x.begin(0);
                    act(x, t, o, Kinds.MOVE, 1, 3 - o);
                    x.end(t);
                }
            });
            moves.due("MOVE: the OBJECT", x -> x.version(o, 0), Kinds.OLD);
            moves.due("MOVE: the other", x -> x.version(3 - o, 0), Kinds.OLD);
            moves.due("MOVE: no other", x -> x.version(3, 0), 50);
            Scene one = scene.then(x -> {
                x.begin(0);
                act(x, 2, o, Kinds.MOVE, 9, 3 - o);
                x.end(2);
            });
            one.due("from, before", x -> x.version(o, 1), 50);
            one.due("from, behind", x -> x.version(o, 2), 41);
            one.due("to, before", x -> x.version(3 - o, 1), 50);
            one.due("to, behind", x -> x.version(3 - o, 2), 59);
        }
        Scene changed = scene.then(x -> {
            x.begin(0);
            act(x, 2, 0, Kinds.BUMP, 1);
            act(x, 2, 0, Kinds.POINT, 2);
            act(x, 2, 0, Kinds.BUMP, 2);
            x.end(2);
        });
        changed.due("the number at that time", x -> x.version(3, 2), 51);
        changed.due("the number at that time", x -> x.version(2, 2), 52);
        changed.due("the SLOT by POINT", x -> x.version(0, 2), 2);
        changed.due("the SLOT before", x -> x.version(0, 1), 3);
    }

    /** ACTS that were undone, had a FINDING, or of one UNDONE have no VERSION. */
    private static void versionsOfNothingElse() {
        Scene scene = counter().then(x -> {
            for (int t = 1; t <= 40; t++) {
                x.begin(0);
                x.act(t, 0, Kinds.ADD, 1, 0);
                x.act(t, 0, Kinds.BY, 0, 0);
                x.backTo(t, 0);
                if (t % 2 == 0) {
                    x.undo(t);
                } else {
                    x.end(t);
                }
            }
        });
        scene.due("ENDS", x -> x.count(4), 20);
        scene.due("version 0", x -> x.version(0, 0), 100);
        scene.due("version 20", x -> x.version(0, 20), 100);
        Scene under = counter().then(x -> {
            x.begin(0);
            x.act(1, 0, Kinds.ADD, 1, 0);
            ends(x, 0, 1);
        });
        under.due("not of one under way", x -> x.version(0, 1), 101);
        under.due("that is there now", x -> x.object(0, 2), 102);
    }

    /** "VERSIONS too" are what the rows make of them. */
    private static void versionsBehindACut() {
        Scene twenty = counter().then(x -> ends(x, 0, 20));
        twenty.due("4 is old", x -> x.version(0, 4), Kinds.OLD);
        for (int stay : new int[] {0, 1, 14, 15, 16, 17, 19}) {
            Scene cut = twenty.then(x -> x.cut(1 + 3 * stay));
            for (int e = 0; e <= stay + 2; e++) {
                int end = e;
                int want = e < stay - 15 ? Kinds.OLD : 100 + Math.min(e, stay);
                cut.due("version(0, " + e + ") of " + stay, x -> x.version(0, end), want);
            }
            Scene next = cut.then(x -> ends(x, 0, 1));
            next.due("the next END", x -> x.count(4), stay + 1);
            next.due("its VERSION", x -> x.version(0, stay + 1), 101 + stay);
            next.due("the one before", x -> x.version(0, stay), 100 + stay);
        }
    }

    /** "0: as MADE", also of an OBJECT that was MADE behind ENDS. */
    private static void lateObjects() {
        Scene late = counter().then(x -> {
            ends(x, 0, 3);
            x.make(Kinds.COUNTER, -1, 7);
            ends(x, 1, 1);
        });
        int[] told = {7, 7, 7, 7, 8, 8};
        for (int e = 0; e < told.length; e++) {
            int end = e;
            late.due("version(1, " + e + ")", x -> x.version(1, end), told[e]);
        }
        late.due("version(0, 4)", x -> x.version(0, 4), 103);
        Scene again = late.then(x -> {
            x.cut(10);
            x.make(Kinds.REGISTER, -1, 9);
        });
        for (int e = 0; e < told.length; e++) {
            int end = e;
            again.due("another one there, version " + e, x -> x.version(1, end), 9);
        }
    }

    /** serial: 1, of nothing too; "what is MADE behind an END is not there then". */
    private static void serials() {
        scene(x -> { }).due("of nothing", x -> x.serial(), 1);
        counter().due("of no END", x -> x.serial(), 1);
        counter().then(x -> x.begin(0)).due("of one under way", x -> x.serial(), 1);
        longLog().due("of many", x -> x.serial(), 1);
        Scene folder = scene(x -> {
            x.make(Kinds.FOLDER, -1, 0);
            for (int t = 1; t <= 12; t++) {
                x.begin(0);
                x.act(t, 0, Kinds.SUM, 0, 0);
                x.end(t);
                x.make(Kinds.COUNTER, 0, t);
            }
        });
        folder.due("SUMS of more and more", x -> x.serial(), 1);
        folder.due("the last SUM", x -> x.of(12, 7), 66);
        folder.then(x -> x.cut(20)).due("behind a CUT", x -> x.serial(), 1);
        Scene mixed = counter().then(x -> {
            x.begin(0);
            x.begin(0);
            x.act(1, 0, Kinds.ADD, MAX, 0);
            x.act(2, 0, Kinds.ADD, MAX, 0);
            x.end(2);
        });
        mixed.due("of one ENDED, one under way", x -> x.serial(), 1);
        mixed.due("KEPT has one alone", x -> x.object(0, 3), 100 + MAX);
        mixed.then(x -> x.undo(1)).due("the other UNDONE", x -> x.serial(), 1);
        mixed.then(x -> x.end(1)).due("both ENDED", x -> x.serial(), 1);
    }

    /** count: "BAD", what is 0 to 17. */
    private static void countWhats() {
        Scene whole = longLog();
        for (int what : new int[] {MIN, -1, 18, 19, MAX}) {
            whole.refused("count(" + what + ")", x -> x.count(what), Kinds.BAD);
        }
    }

    /** count: each what. */
    private static void countsOfEach() {
        Scene whole = longLog().then(x -> {
            x.act(5, 1, Kinds.BY, 0, 0);
            x.limit(150);
            x.rule(2);
            x.group(4);
        });
        // 13: FOLDER and OBJECT for what lies in one, twice that for BUMP, one for what lies in none.
        int asked = 2 + 1 + 1 + 2 + 2 + 2 + 1 + 4 + 1 + 1 + 2 + 1 + 2;
        int[] due = {6, 6, 1, 1, 3, 1, 0, 3, 13, 11, 1, 30, 15, asked, asked, 150, 2, 4};
        for (int what = 0; what < due.length; what++) {
            int one = what;
            whole.due("count(" + what + ")", x -> x.count(one), due[what]);
        }
    }
}
