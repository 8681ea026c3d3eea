import java.util.Random;

/** Long mixed runs of HoldHouse beside Model, by seeds that are always the same. */
public final class SoakTest {
    private static final Check CHECK = new Check("SoakTest");
    private static final int STEPS = 220;
    // How many are under way at once, by flavour.
    private static final int[] AT_ONCE = {2, 3, 4, 5, 7, 11};

    private final Random random;
    private final HoldHouse x = new HoldHouse();
    private final Model m = new Model();
    private final int seed;
    private final int flavour;
    private int step;
    private int rowsSeen;

    private SoakTest(int seed) {
        this.seed = seed;
        this.flavour = seed % 6;
        this.random = new Random(seed * 7919L + 1);
    }

    public static void main(String[] args) {
        int from = args.length > 1 ? Integer.parseInt(args[0]) : 0;
        int to = args.length > 1 ? Integer.parseInt(args[1]) : 300;
        int[] seen = new int[18];
        for (int seed = from; seed < to; seed++) {
            SoakTest run = new SoakTest(seed);
            run.go();
            for (int what = 0; what < 18; what++) {
                seen[what] += run.x.count(what);
            }
        }
        System.out.println("SoakTest: rings " + seen[6] + ", ends " + seen[4] + ", undone " + seen[5] + ", asked "
                + seen[8] + ", done " + seen[9] + ", findings " + seen[10]);
        CHECK.isTrue("the runs have rings", seen[6] > 0);
        CHECK.close();
    }

    private void due(String call, int got, int want) {
        CHECK.due("seed " + seed + " step " + step + ": " + call, got, want);
    }

    private int upTo(int most) {
        return random.nextInt(most + 1);
    }

    private void go() {
        makeSome();
        for (step = 0; step < STEPS; step++) {
            one();
            observe();
        }
        observeAll();
    }

    private void makeSome() {
        int many = flavour == 0 ? 3 : flavour == 1 ? 5 : 4 + upTo(8);
        for (int i = 0; i < many; i++) {
            int sort = flavour == 1 ? 6 + upTo(1) : flavour == 2 ? new int[] {0, 2, 1}[i % 3] : upTo(7);
            make(sort, folderOrNone(), upTo(5) == 0 ? 1000000000 : upTo(20));
        }
    }

    private int folderOrNone() {
        for (int n = 0; n < 6; n++) {
            int o = upTo(Math.max(0, x.count(0)));
            if (x.object(o, 0) == 0) {
                return o;
            }
        }
        return -1;
    }

    private void make(int sort, int parent, int v) {
        due("make(" + sort + ", " + parent + ", " + v + ")", x.make(sort, parent, v), m.make(sort, parent, v));
    }

    private int someDeal() {
        int began = x.count(1);
        if (upTo(20) == 0) {
            return upTo(began + 1);
        }
        for (int n = 0; n < 30; n++) {
            int t = began - upTo(Math.min(20, began));
            if (x.of(t, 0) == 1) {
                return t;
            }
        }
        return upTo(began + 1);
    }

    private int someUndone() {
        for (int n = 0; n < 40; n++) {
            int t = 1 + upTo(Math.max(0, x.count(1) - 1));
            if (x.of(t, 0) == 4) {
                return t;
            }
        }
        return 1;
    }

    private void one() {
        int underWay = x.count(2) + x.count(3);
        if (underWay < AT_ONCE[flavour] && upTo(3) > 0) {
            int rank = upTo(3);
            due("begin(" + rank + ")", x.begin(rank), m.begin(rank));
            return;
        }
        int pick = upTo(99);
        if (pick < 66) {
            act();
        } else if (pick < 94) {
            onDeal(pick);
        } else {
            onHouse(pick);
        }
    }

    private void onDeal(int pick) {
        int t = someDeal();
        if (pick < 72) {
            due("end(" + t + ")", x.end(t), m.end(t));
        } else if (pick < 76) {
            due("nest(" + t + ")", x.nest(t), m.nest(t));
        } else if (pick < 79) {
            due("join(" + t + ")", x.join(t), m.join(t));
        } else if (pick < 82) {
            due("back(" + t + ")", x.back(t), m.back(t));
        } else if (pick < 84) {
            due("save(" + t + ")", x.save(t), m.save(t));
        } else if (pick < 87) {
            int acts = x.of(t, 5) - upTo(3) + (upTo(5) == 0 ? 1 : 0);
            due("backTo(" + t + ", " + acts + ")", x.backTo(t, acts), m.backTo(t, acts));
        } else if (pick < 89) {
            int any = upTo(2) == 0 ? upTo(x.count(1)) : t;
            due("undo(" + any + ")", x.undo(any), m.undo(any));
        } else if (pick < 91) {
            int gone = someUndone();
            due("retry(" + gone + ")", x.retry(gone), m.retry(gone));
        } else {
            int rank = upTo(4) - 2;
            due("begin(" + rank + ")", x.begin(rank), m.begin(rank));
        }
    }

    private void onHouse(int pick) {
        int n = upTo(24) - 1;
        if (pick == 94) {
            due("rule(" + n % 5 + ")", x.rule(n % 5), m.rule(n % 5));
        } else if (pick == 95) {
            int most = upTo(3) == 0 ? 3 + upTo(10) : 200;
            due("limit(" + most + ")", x.limit(most), m.limit(most));
        } else if (pick == 96) {
            due("group(" + n + ")", x.group(n / 4), m.group(n / 4));
        } else if (pick == 97) {
            due("rest()", x.rest(), m.rest());
            make(upTo(7), folderOrNone(), upTo(9));
        } else if (pick == 98 && upTo(3) == 0) {
            due("crash()", x.crash(), m.crash());
            rowsSeen = Math.min(rowsSeen, x.count(11));
        } else if (upTo(3) == 0) {
            int at = Math.max(upTo(8) == 0 ? 0 : x.count(0), x.count(11) - upTo(25) + 1);
            due("cut(" + at + ")", x.cut(at), m.cut(at));
            rowsSeen = Math.min(rowsSeen, x.count(11));
        }
        if (x.count(0) < 2) {
            makeSome();
        }
    }

    private void act() {
        int t = someDeal();
        int o = upTo(40) == 0 ? upTo(41) - 1 : upTo(Math.max(0, x.count(0) - 1));
        int kind = kindFor(x.object(o, 0));
        int a = aFor(kind);
        int b = upTo(Math.max(0, x.count(0) - 1));
        String call = "act(" + t + ", " + o + ", " + kind + ", " + a + ", " + b + ")";
        due(call, x.act(t, o, kind, a, b), m.act(t, o, kind, a, b));
    }

    private int kindFor(int sort) {
        if (upTo(15) == 0) {
            return upTo(23) - 1;
        }
        for (int n = 0; n < 200 && sort >= 0; n++) {
            int kind = upTo(21);
            if (Model.HAS[kind].indexOf('0' + sort) >= 0 && (kind != 21 || upTo(3) == 0)) {
                return kind;
            }
        }
        return upTo(21);
    }

    private int aFor(int kind) {
        if (upTo(30) == 0) {
            return Kinds.WILD[upTo(Kinds.WILD.length - 1)];
        }
        switch (kind) {
            case 17:
                return upTo(x.count(0)) - 1;
            case 2:
                return upTo(3) - 1;
            case 15:
            case 16:
            case 19:
                return upTo(9);
            default:
                return upTo(2);
        }
    }

    private void observe() {
        for (int what = 0; what < 18; what++) {
            due("count(" + what + ")", x.count(what), m.count(what));
        }
        due("digest()", x.digest(), m.digest());
        for (int i = -2; i < 4; i++) {
            due("ring(" + i + ")", x.ring(i), m.ring(i));
            due("trace(" + i + ")", x.trace(i), m.trace(i));
        }
        for (; rowsSeen < x.count(11); rowsSeen++) {
            for (int what = 0; what < 8; what++) {
                due("row(" + rowsSeen + ", " + what + ")", x.row(rowsSeen, what), m.row(rowsSeen, what));
            }
        }
        for (int t = Math.max(1, x.count(1) - 14); t <= x.count(1); t++) {
            observeDeal(t);
        }
        for (int o = 0; o < x.count(0); o++) {
            observeLocks(o);
        }
        int o = upTo(x.count(0));
        int e = upTo(x.count(4) + 1);
        due("object(" + o + ", 3)", x.object(o, 3), m.object(o, 3));
        if (step % 8 == 0) {
            due("version(" + o + ", " + e + ")", x.version(o, e), m.version(o, e));
            due("ended(" + e + ")", x.ended(e), m.ended(e));
            due("serial()", x.serial(), 1);
            heldAgree();
        }
    }

    private void observeDeal(int t) {
        for (int what = -1; what < 13; what++) {
            due("of(" + t + ", " + what + ")", x.of(t, what), m.of(t, what));
        }
    }

    private void observeLocks(int o) {
        for (int i = 0; i < 40; i++) {
            int there = x.lock(o, i, 0);
            for (int what = 0; what < 4; what++) {
                due("lock(" + o + ", " + i + ", " + what + ")", x.lock(o, i, what), m.lock(o, i, what));
                due("waits(" + o + ", " + i + ", " + what + ")", x.waits(o, i, what), m.waits(o, i, what));
            }
            if (there == Kinds.NONE && x.waits(o, i, 0) == Kinds.NONE) {
                return;
            }
        }
    }

    /** Of two that hold, no ACTS that do not commute, no X beside another. */
    private void heldAgree() {
        for (int o = 0; o < x.count(0); o++) {
            for (int i = 0; x.lock(o, i, 0) != Kinds.NONE; i++) {
                for (int j = 0; j < i; j++) {
                    boolean others = x.lock(o, i, 0) != x.lock(o, j, 0);
                    boolean exclusive = x.lock(o, i, 1) == 3 || x.lock(o, j, 1) == 3;
                    boolean acts = x.lock(o, i, 1) == 4 && x.lock(o, j, 1) == 4;
                    CHECK.isTrue("X alone", !others || !exclusive);
                    CHECK.isTrue("acts commute", !others || !acts || x.commute(x.object(o, 0), x.lock(o, i, 2),
                            x.lock(o, i, 3), x.lock(o, j, 2), x.lock(o, j, 3)) == 1);
                }
            }
        }
    }

    private void observeAll() {
        for (int t = 1; t <= x.count(1); t++) {
            observeDeal(t);
        }
        for (int o = 0; o < x.count(0); o++) {
            for (int what = -1; what < 5; what++) {
                due("object(" + o + ", " + what + ")", x.object(o, what), m.object(o, what));
            }
            for (int e = 0; e <= x.count(4) + 1; e++) {
                due("version(" + o + ", " + e + ")", x.version(o, e), m.version(o, e));
            }
        }
        for (int n = 0; n < 60; n++) {
            int sort = upTo(9) - 1;
            int kind = upTo(23) - 1;
            int kind2 = upTo(2) == 0 ? kindFor(sort) : upTo(23) - 1;
            int a = aFor(kind);
            int a2 = aFor(kind2);
            String pair = "(" + sort + ", " + kind + ", " + a + ", " + kind2 + ", " + a2 + ")";
            due("commute" + pair, x.commute(sort, kind, a, kind2, a2), m.commute(sort, kind, a, kind2, a2));
            due("tried" + pair, x.tried(sort, kind, a, kind2, a2), m.tried(sort, kind, a, kind2, a2));
        }
        due("serial()", x.serial(), 1);
    }
}
