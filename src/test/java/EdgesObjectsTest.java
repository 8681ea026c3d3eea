/**
 * The edges that 'What it is', the SORTS and promises 1 A new object, 2 make, 3 object and 32 digest name: just
 * inside, on, just outside; what is refused changes nothing.
 */
public final class EdgesObjectsTest {
    private static final Check CHECK = new Check("EdgesObjectsTest");
    private static final int MIN = Integer.MIN_VALUE, MAX = Integer.MAX_VALUE, MOST = 1000000000;

    private static Scene scene(Scene.Story story) {
        return new Scene(CHECK, story);
    }

    public static void main(String[] args) {
        newHouse();
        fortyObjects();
        fiveFolders();
        foldersBeside();
        sorts();
        parents();
        accountsAsMade();
        valuesAsMade();
        nothingAsMade();
        makeUnderWay();
        ofSeveralTheFirst();
        objectNumbers();
        objectWhats();
        objectTells();
        setDigests();
        queueDigests();
        mapDigests();
        slotDigests();
        digestOfAll();
        CHECK.close();
    }

    private static void counters(HoldHouse x, int many) {
        for (int i = 0; i < many; i++) {
            x.make(Kinds.COUNTER, -1, i);
        }
    }

    private static void foldersInOneAnother(HoldHouse x, int many) {
        for (int i = 0; i < many; i++) {
            x.make(Kinds.FOLDER, i - 1, 0);
        }
    }

    private static void oneOfEach(HoldHouse x) {
        for (int sort = 0; sort < 8; sort++) {
            x.make(sort, -1, 5);
        }
    }

    /** "No OBJECTS; RULE 0, LIMIT 200, group 1." */
    private static void newHouse() {
        Scene fresh = scene(x -> { });
        fresh.due("no OBJECTS", x -> x.count(0), 0);
        fresh.due("RULE", x -> x.count(16), 0);
        fresh.due("LIMIT", x -> x.count(15), 200);
        fresh.due("group", x -> x.count(17), 1);
        for (int what = 1; what <= 14; what++) {
            int one = what;
            fresh.due("count(" + what + ") of nothing", x -> x.count(one), 0);
        }
        fresh.refused("object 0", x -> x.object(0, 0), Kinds.BAD);
        fresh.refused("version of object 0", x -> x.version(0, 0), Kinds.BAD);
        fresh.refused("lock on object 0", x -> x.lock(0, 0, 0), Kinds.BAD);
        fresh.refused("waits on object 0", x -> x.waits(0, 0, 0), Kinds.BAD);
        fresh.due("the first OBJECT", x -> x.make(Kinds.SET, -1, 0), 0);
        fresh.due("the first TRANSACTION", x -> x.begin(0), 1);
    }

    /** "OBJECTS are numbered from 0 on, 40 at most"; make: "FULL (40 ..)". */
    private static void fortyObjects() {
        scene(x -> counters(x, 38)).due("the 39th", x -> x.make(Kinds.MAP, -1, 0), 38);
        scene(x -> counters(x, 39)).due("the 40th", x -> x.make(Kinds.MAP, -1, 0), 39);
        Scene forty = scene(x -> counters(x, 40));
        for (int sort = 0; sort < 8; sort++) {
            int one = sort;
            forty.refused("the 41st, of SORT " + sort, x -> x.make(one, -1, 0), Kinds.FULL);
        }
        forty.due("OBJECTS", x -> x.count(0), 40);
        forty.due("rows", x -> x.count(11), 40);
        forty.due("the last one", x -> x.object(39, 2), 39);
        forty.due("one more", x -> x.object(40, 2), Kinds.BAD);
        forty.then(x -> x.cut(39)).due("there is room behind a CUT", x -> x.make(Kinds.MAP, -1, 0), 39);
    }

    /** "5 FOLDERS lie in one another at most"; make: "FULL (..; a FOLDER too deep)". */
    private static void fiveFolders() {
        for (int many = 0; many < 5; many++) {
            int now = many;
            scene(x -> foldersInOneAnother(x, now)).due("FOLDER " + (many + 1) + " in one another",
                    x -> x.make(Kinds.FOLDER, now - 1, 0), many);
        }
        Scene five = scene(x -> foldersInOneAnother(x, 5));
        five.refused("a sixth FOLDER in the fifth", x -> x.make(Kinds.FOLDER, 4, 0), Kinds.FULL);
        for (int sort = 1; sort < 8; sort++) {
            int one = sort;
            five.due("SORT " + sort + " in the fifth FOLDER", x -> x.make(one, 4, 0), 5);
        }
        five.due("a FOLDER in the fourth", x -> x.make(Kinds.FOLDER, 3, 0), 5);
        five.due("a FOLDER below none", x -> x.make(Kinds.FOLDER, -1, 0), 5);
    }

    /** How deep is told by the FOLDERS above, not by how many there are. */
    private static void foldersBeside() {
        Scene many = scene(x -> {
            for (int i = 0; i < 12; i++) {
                x.make(Kinds.FOLDER, -1, 0);
            }
            foldersInOneAnotherFrom(x, 11, 12);
        });
        many.due("FOLDERS", x -> x.count(0), 16);
        many.refused("a sixth one there", x -> x.make(Kinds.FOLDER, 15, 0), Kinds.FULL);
        many.due("a second one elsewhere", x -> x.make(Kinds.FOLDER, 10, 0), 16);
        many.due("a fifth one beside the fifth", x -> x.make(Kinds.FOLDER, 14, 0), 16);
    }

    private static void foldersInOneAnotherFrom(HoldHouse x, int outermost, int next) {
        x.make(Kinds.FOLDER, outermost, 0);
        for (int i = 0; i < 3; i++) {
            x.make(Kinds.FOLDER, next + i, 0);
        }
    }

    /** SORTS are 0 to 7. */
    private static void sorts() {
        Scene some = scene(x -> x.make(Kinds.FOLDER, -1, 0));
        for (int sort : new int[] {MIN, -1, 8, 9, MAX}) {
            some.refused("make of SORT " + sort, x -> x.make(sort, 0, 0), Kinds.BAD);
        }
        for (int sort = 0; sort < 8; sort++) {
            int one = sort;
            some.due("make of SORT " + sort, x -> x.make(one, 0, 0), 1);
        }
    }

    /** "below a FOLDER (-1: none)" */
    private static void parents() {
        Scene each = scene(EdgesObjectsTest::oneOfEach);
        each.due("below none", x -> x.make(Kinds.COUNTER, -1, 0), 8);
        each.due("below a FOLDER", x -> x.make(Kinds.COUNTER, 0, 0), 8);
        for (int parent = 1; parent < 8; parent++) {
            int one = parent;
            each.refused("below SORT " + parent, x -> x.make(Kinds.COUNTER, one, 0), Kinds.BAD);
        }
        for (int parent : new int[] {MIN, -2, 8, 9, 40, MAX}) {
            each.refused("below " + parent, x -> x.make(Kinds.COUNTER, parent, 0), Kinds.BAD);
        }
        Scene last = scene(x -> {
            counters(x, 38);
            x.make(Kinds.FOLDER, -1, 0);
        });
        last.due("below the last one", x -> x.make(Kinds.SLOT, 38, 0), 39);
        last.refused("below itself", x -> x.make(Kinds.FOLDER, 39, 0), Kinds.BAD);
    }

    /** "6 ACCOUNT: a VALUE, 0 to 1000000000"; make: "BAD (6: v too)". */
    private static void accountsAsMade() {
        Scene fresh = scene(x -> { });
        for (int v : new int[] {0, 1, MOST - 1, MOST}) {
            fresh.due("ACCOUNT with " + v, x -> x.make(Kinds.ACCOUNT, -1, v), 0);
            scene(x -> x.make(Kinds.ACCOUNT, -1, v)).due("has " + v, x -> x.object(0, 2), v);
        }
        for (int v : new int[] {MIN, -1, MOST + 1, MAX}) {
            fresh.refused("ACCOUNT with " + v, x -> x.make(Kinds.ACCOUNT, -1, v), Kinds.BAD);
        }
    }

    /** "1 COUNTER, 2 REGISTER: a VALUE, an int (as MADE)" */
    private static void valuesAsMade() {
        for (int sort = Kinds.COUNTER; sort <= Kinds.REGISTER; sort++) {
            int one = sort;
            for (int v : new int[] {MIN, MIN + 1, -1, 0, 1, MOST + 1, MAX - 1, MAX}) {
                Scene made = scene(x -> x.make(one, -1, v));
                made.due("SORT " + sort + " with " + v, x -> x.object(0, 2), v);
                made.due("its KEPT", x -> x.object(0, 3), v);
                made.due("its version 0", x -> x.version(0, 0), v);
                made.due("its row", x -> x.row(0, 4), v);
            }
        }
    }

    /** "The rest as MADE: nothing, -1"; make: "others: any" v. */
    private static void nothingAsMade() {
        int nothing = 17;
        for (int key = 0; key < 8; key++) {
            nothing = 31 * nothing;
        }
        int[][] rest = {{Kinds.FOLDER, 0}, {Kinds.SET, 0}, {Kinds.QUEUE, 17}, {Kinds.MAP, nothing}, {Kinds.SLOT, -1}};
        for (int[] one : rest) {
            for (int v : new int[] {MIN, -1, 0, 1, MAX}) {
                Scene made = scene(x -> x.make(one[0], -1, v));
                made.due("SORT " + one[0] + " made with " + v, x -> x.object(0, 2), one[1]);
                made.due("its KEPT", x -> x.object(0, 3), one[1]);
                made.due("its row has no VALUE", x -> x.row(0, 4), 0);
            }
        }
        for (int sort = Kinds.SET; sort <= Kinds.MAP; sort++) {
            int one = sort;
            Scene made = scene(x -> {
                x.make(one, -1, 3);
                x.begin(0);
            });
            made.then(x -> x.act(1, 0, Kinds.SIZE, 0, 0)).due("how many SORT " + sort + " has", x -> x.of(1, 7), 0);
        }
    }

    /** make: "STATE: one is under way" */
    private static void makeUnderWay() {
        Scene one = scene(x -> {
            counters(x, 1);
            x.begin(0);
        });
        one.refused("make while one RUNS", x -> x.make(Kinds.COUNTER, -1, 0), Kinds.STATE);
        one.then(x -> x.end(1)).due("make behind its END", x -> x.make(Kinds.COUNTER, -1, 0), 1);
        one.then(x -> x.undo(1)).due("make behind its undoing", x -> x.make(Kinds.COUNTER, -1, 0), 1);
        one.then(x -> x.crash()).due("make behind a CUT", x -> x.make(Kinds.COUNTER, -1, 0), 0);
        Scene two = one.then(x -> {
            x.begin(0);
            x.act(1, 0, Kinds.ADD, 1, 0);
            x.act(2, 0, Kinds.GET, 0, 0);
        });
        two.refused("make while one WAITS", x -> x.make(Kinds.COUNTER, -1, 0), Kinds.STATE);
        two.then(x -> x.end(1)).refused("make while the other RUNS", x -> x.make(Kinds.SET, -1, 0), Kinds.STATE);
        two.then(x -> {
            x.end(1);
            x.end(2);
        }).due("make behind both", x -> x.make(Kinds.SET, -1, 0), 1);
    }

    /** "of several the first": BAD, STATE, FULL. */
    private static void ofSeveralTheFirst() {
        Scene full = scene(x -> {
            foldersInOneAnother(x, 5);
            for (int i = 5; i < 40; i++) {
                x.make(Kinds.COUNTER, -1, 0);
            }
        });
        full.refused("SORT ahead of FULL", x -> x.make(8, -1, 0), Kinds.BAD);
        full.refused("PARENT ahead of FULL", x -> x.make(Kinds.COUNTER, 5, 0), Kinds.BAD);
        full.refused("VALUE ahead of FULL", x -> x.make(Kinds.ACCOUNT, -1, -1), Kinds.BAD);
        Scene busy = full.then(x -> x.begin(0));
        busy.refused("STATE ahead of 40", x -> x.make(Kinds.COUNTER, -1, 0), Kinds.STATE);
        busy.refused("STATE ahead of too deep", x -> x.make(Kinds.FOLDER, 4, 0), Kinds.STATE);
        busy.refused("SORT ahead of STATE", x -> x.make(-1, -1, 0), Kinds.BAD);
        busy.refused("PARENT ahead of STATE", x -> x.make(Kinds.COUNTER, 40, 0), Kinds.BAD);
        busy.refused("VALUE ahead of STATE", x -> x.make(Kinds.ACCOUNT, -1, MOST + 1), Kinds.BAD);
    }

    /** object: "BAD" of a number that no OBJECT has. */
    private static void objectNumbers() {
        Scene three = scene(x -> counters(x, 3));
        for (int what = 0; what < 4; what++) {
            int one = what;
            for (int o : new int[] {MIN, -1, 3, 4, 39, 40, MAX}) {
                three.refused("object(" + o + ", " + what + ")", x -> x.object(o, one), Kinds.BAD);
            }
        }
        three.due("object(0, 2)", x -> x.object(0, 2), 0);
        three.due("object(2, 2)", x -> x.object(2, 2), 2);
    }

    /** object: what is 0 to 3. */
    private static void objectWhats() {
        // A VALUE of -7 and a PARENT, so that no answer looks like BAD.
        Scene one = scene(x -> {
            x.make(Kinds.FOLDER, -1, 0);
            x.make(Kinds.COUNTER, 0, -7);
        });
        for (int what : new int[] {MIN, -1, 4, 5, MAX}) {
            one.refused("object(1, " + what + ")", x -> x.object(1, what), Kinds.BAD);
        }
        int[] told = {Kinds.COUNTER, 0, -7, -7};
        for (int what = 0; what < 4; what++) {
            int asked = what;
            one.due("object(1, " + what + ")", x -> x.object(1, asked), told[what]);
        }
    }

    /** object: "0 its SORT, 1 its PARENT (-1), 2 its DIGEST, 3 that of its KEPT" */
    private static void objectTells() {
        Scene each = scene(EdgesObjectsTest::oneOfEach);
        for (int sort = 0; sort < 8; sort++) {
            int one = sort;
            each.due("SORT", x -> x.object(one, 0), sort);
            each.due("PARENT of none", x -> x.object(one, 1), -1);
        }
        Scene last = scene(x -> {
            counters(x, 38);
            x.make(Kinds.FOLDER, -1, 0);
            x.make(Kinds.COUNTER, 38, 4);
            x.begin(0);
            x.act(1, 39, Kinds.ADD, 3, 0);
        });
        last.due("PARENT", x -> x.object(39, 1), 38);
        last.due("DIGEST with what is not ENDED", x -> x.object(39, 2), 7);
        last.due("KEPT without it", x -> x.object(39, 3), 4);
        last.then(x -> x.end(1)).due("KEPT behind the END", x -> x.object(39, 3), 7);
        last.then(x -> x.undo(1)).due("DIGEST behind the undoing", x -> x.object(39, 2), 4);
    }

    private static Scene acts(int sort, int[]... acts) {
        return scene(x -> {
            x.make(sort, -1, 0);
            x.begin(0);
            for (int[] act : acts) {
                x.act(1, 0, act[0], act[1], act[2]);
            }
        });
    }

    /** "SET: the sum of 2^n", n from 0 to 31, going round. */
    private static void setDigests() {
        Scene all = acts(Kinds.SET);
        int sum = 0;
        for (int n = 0; n < 32; n++) {
            int one = n;
            acts(Kinds.SET, new int[] {Kinds.INSERT, n, 0}).due("a SET with " + n, x -> x.object(0, 2), 1 << n);
            all = all.then(x -> x.act(1, 0, Kinds.INSERT, one, 0));
            sum += 1 << n;
            all.due("a SET up to " + n, x -> x.object(0, 2), sum);
        }
        all.due("a SET of all", x -> x.object(0, 2), -1);
    }

    /** "of a QUEUE d, 17 at first, for each d = 31 d + it", going round. */
    private static void queueDigests() {
        Scene queue = acts(Kinds.QUEUE);
        queue.due("an empty QUEUE", x -> x.object(0, 2), 17);
        int[] ints = {MAX, MIN, -1, 0, 1, MAX, 12345, -98765};
        long d = 17;
        for (int it : ints) {
            d = (int) (31 * d + it);
            queue = queue.then(x -> x.act(1, 0, Kinds.ENTER, it, 0));
            queue.due("a QUEUE with " + it + " behind", x -> x.object(0, 2), (int) d);
        }
        int[][] orders = {{1, 2}, {2, 1}};
        for (int[] order : orders) {
            acts(Kinds.QUEUE, new int[] {Kinds.ENTER, order[0], 0}, new int[] {Kinds.ENTER, order[1], 0})
                    .due("the order tells", x -> x.object(0, 2), (17 * 31 + order[0]) * 31 + order[1]);
        }
    }

    private static int mapDigest(int key, int value, boolean there) {
        long d = 17;
        for (int k = 0; k < 8; k++) {
            d = (int) (31 * d);
            d = k == key && there ? (int) (d + value + 1) : d;
        }
        return (int) d;
    }

    /** "of a MAP d, 17 at first, for each KEY d = 31 d, or 31 d + the int + 1", going round. */
    private static void mapDigests() {
        acts(Kinds.MAP).due("an empty MAP", x -> x.object(0, 2), mapDigest(0, 0, false));
        for (int key = 0; key < 8; key++) {
            for (int v : new int[] {MIN, -1, 0, 1, MAX}) {
                acts(Kinds.MAP, new int[] {Kinds.STORE, key, v})
                        .due("a MAP with " + v + " for " + key, x -> x.object(0, 2), mapDigest(key, v, true));
            }
        }
        acts(Kinds.MAP, new int[] {Kinds.STORE, 3, -1}).due("-1 looks like none", x -> x.object(0, 2),
                mapDigest(3, 0, false));
        acts(Kinds.MAP, new int[] {Kinds.STORE, 3, 9}, new int[] {Kinds.DROP, 3, 0}).due("none again",
                x -> x.object(0, 2), mapDigest(3, 0, false));
        Scene all = acts(Kinds.MAP);
        long d = 17;
        for (int key = 0; key < 8; key++) {
            int one = key;
            all = all.then(x -> x.act(1, 0, Kinds.STORE, one, MAX - one));
            d = (int) (31 * d + (MAX - key) + 1);
        }
        all.due("a MAP of all KEYS", x -> x.object(0, 2), (int) d);
    }

    /** "SLOT: its number" */
    private static void slotDigests() {
        Scene forty = scene(x -> {
            x.make(Kinds.SLOT, -1, 0);
            for (int i = 1; i < 40; i++) {
                x.make(Kinds.SET, -1, 0);
            }
            x.begin(0);
        });
        for (int o : new int[] {-1, 0, 1, 39}) {
            forty.then(x -> x.act(1, 0, Kinds.POINT, o, 0)).due("a SLOT with " + o, x -> x.object(0, 2), o);
        }
    }

    /** digest: "d, 17 at first; for each OBJECT d = 31 d + its DIGEST", going round. */
    private static void digestOfAll() {
        scene(x -> { }).due("digest of no OBJECT", x -> x.digest(), 17);
        scene(x -> x.make(Kinds.COUNTER, -1, -1)).due("digest of one", x -> x.digest(), 17 * 31 - 1);
        scene(x -> x.make(Kinds.FOLDER, -1, 9)).due("digest of a FOLDER", x -> x.digest(), 17 * 31);
        Scene extreme = scene(x -> {
            x.make(Kinds.COUNTER, -1, MAX);
            x.make(Kinds.REGISTER, -1, MIN);
        });
        long two = (int) (31L * (int) (17L * 31 + MAX) + MIN);
        extreme.due("digest goes round", x -> x.digest(), (int) two);
        long d = 17;
        for (int i = 0; i < 40; i++) {
            d = (int) (31 * d + i);
        }
        scene(x -> counters(x, 40)).due("digest of 40", x -> x.digest(), (int) d);
        Scene changed = scene(x -> {
            counters(x, 2);
            x.begin(0);
            x.act(1, 1, Kinds.ADD, 8, 0);
        });
        changed.due("digest is of what is now, not of THE KEPT", x -> x.digest(), (17 * 31) * 31 + 9);
        changed.then(x -> x.undo(1)).due("digest behind undoing", x -> x.digest(), (17 * 31) * 31 + 1);
        changed.then(x -> x.cut(1)).due("digest behind a CUT", x -> x.digest(), 17 * 31);
    }
}
