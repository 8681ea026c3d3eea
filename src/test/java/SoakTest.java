import java.util.ArrayList;
import java.util.List;
import java.util.Random;

/**
 * Long mixed runs of HoldHouse beside Model, by seeds that are always the same. A run is told again on new objects
 * for the questions, so that none is used for more than the 512 calls that are promised.
 */
public final class SoakTest {
    private static final Check CHECK = new Check("SoakTest");
    private static final int STEPS = 200, MOST_CALLS = 512;
    // How many are under way at once, by flavour.
    private static final int[] AT_ONCE = {2, 3, 4, 5, 7, 12};

    private final Random random;
    private final HoldHouse x = new HoldHouse();
    private final Model m = new Model();
    private final List<int[]> story = new ArrayList<>();
    private final int seed;
    private final int flavour;
    private int rowsSeen;

    private SoakTest(int seed) {
        this.seed = seed;
        this.flavour = seed % 6;
        this.random = new Random(seed * 7919L + 1);
    }

    public static void main(String[] args) {
        int from = args.length > 1 ? Integer.parseInt(args[0]) : 0;
        int to = args.length > 1 ? Integer.parseInt(args[1]) : 300;
        int[] seen = new int[18];
        for (int seed = from; seed < to; seed++) {
            SoakTest run = new SoakTest(seed);
            run.go();
            for (int what = 0; what < 18; what++) {
                seen[what] += run.m.count(what);
            }
        }
        System.out.println("SoakTest: rings " + seen[6] + ", ends " + seen[4] + ", undone " + seen[5] + ", asked "
                + seen[8] + ", done " + seen[9] + ", findings " + seen[10]);
        CHECK.isTrue("the runs have rings", seen[6] > 0);
        CHECK.close();
    }

    private int upTo(int most) {
        return random.nextInt(most + 1);
    }

    private void go() {
        makeSome();
        for (int step = 0; step < STEPS; step++) {
            one();
            if (upTo(2) == 0) {
                ask(nowAndThen());
            }
        }
        ask(inTheEnd());
    }

    /** A call of the run, on both. */
    private void both(int... call) {
        story.add(call);
        CHECK.due("seed " + seed + " call " + story.size() + ": " + Calls.name(call), Calls.on(x, call),
                Calls.on(m, call));
    }

    /** Questions behind what was called up to now, on houses of their own. */
    private void ask(List<int[]> questions) {
        HoldHouse y = null;
        int calls = MOST_CALLS;
        for (int[] question : questions) {
            if (calls >= MOST_CALLS) {
                y = new HoldHouse();
                for (int[] call : story) {
                    Calls.on(y, call);
                }
                calls = story.size();
            }
            calls++;
            CHECK.due("seed " + seed + " behind call " + story.size() + ": " + Calls.name(question),
                    Calls.on(y, question), Calls.on(m, question));
        }
    }

    private void makeSome() {
        int many = flavour == 0 ? 3 : flavour == 1 ? 5 : 4 + upTo(8);
        for (int i = 0; i < many; i++) {
            int sort = flavour == 1 ? 6 + upTo(1) : flavour == 2 ? new int[] {0, 2, 1}[i % 3] : upTo(7);
            both(Calls.MAKE, sort, folderOrNone(), upTo(5) == 0 ? 1000000000 : upTo(20));
        }
    }

    private int folderOrNone() {
        for (int n = 0; n < 6; n++) {
            int o = upTo(Math.max(0, m.count(0)));
            if (m.object(o, 0) == 0) {
                return o;
            }
        }
        return -1;
    }

    private int someDeal() {
        int began = m.count(1);
        if (upTo(20) == 0) {
            return upTo(began + 1);
        }
        for (int n = 0; n < 30; n++) {
            int t = began - upTo(Math.min(20, began));
            if (m.of(t, 0) == 1) {
                return t;
            }
        }
        return upTo(began + 1);
    }

    private int someUndone() {
        for (int n = 0; n < 40; n++) {
            int t = 1 + upTo(Math.max(0, m.count(1) - 1));
            if (m.of(t, 0) == 4) {
                return t;
            }
        }
        return 1;
    }

    private void one() {
        int underWay = m.count(2) + m.count(3);
        if (underWay < AT_ONCE[flavour] && upTo(3) > 0) {
            both(Calls.BEGIN, upTo(3));
            return;
        }
        int pick = upTo(99);
        if (pick < 66) {
            act();
        } else if (pick < 94) {
            onDeal(pick);
        } else {
            onHouse(pick);
        }
    }

    private void onDeal(int pick) {
        int t = someDeal();
        if (pick < 72) {
            both(Calls.END, t);
        } else if (pick < 76) {
            both(Calls.NEST, t);
        } else if (pick < 79) {
            both(Calls.JOIN, t);
        } else if (pick < 82) {
            both(Calls.BACK, t);
        } else if (pick < 84) {
            both(Calls.SAVE, t);
        } else if (pick < 87) {
            both(Calls.BACK_TO, t, m.of(t, 5) - upTo(3) + (upTo(5) == 0 ? 1 : 0));
        } else if (pick < 89) {
            both(Calls.UNDO, upTo(2) == 0 ? upTo(m.count(1)) : t);
        } else if (pick < 91) {
            both(Calls.RETRY, someUndone());
        } else {
            both(Calls.BEGIN, upTo(4) - 2);
        }
    }

    private void onHouse(int pick) {
        int n = upTo(24) - 1;
        if (pick == 94) {
            both(Calls.RULE, n % 5);
        } else if (pick == 95) {
            both(Calls.LIMIT, upTo(3) == 0 ? 3 + upTo(10) : 200);
        } else if (pick == 96) {
            both(Calls.GROUP, n / 4);
        } else if (pick == 97) {
            both(Calls.REST);
            both(Calls.MAKE, upTo(7), folderOrNone(), upTo(9));
        } else if (pick == 98 && upTo(3) == 0) {
            both(Calls.CRASH);
        } else if (upTo(3) == 0) {
            both(Calls.CUT, Math.max(upTo(8) == 0 ? 0 : m.count(0), m.count(11) - upTo(25) + 1));
        }
        rowsSeen = Math.min(rowsSeen, m.count(11));
        if (m.count(0) < 2) {
            makeSome();
        }
    }

    private void act() {
        int t = someDeal();
        int o = upTo(40) == 0 ? upTo(41) - 1 : upTo(Math.max(0, m.count(0) - 1));
        int kind = kindFor(m.object(o, 0));
        both(Calls.ACT, t, o, kind, aFor(kind), upTo(Math.max(0, m.count(0) - 1)));
    }

    private int kindFor(int sort) {
        if (upTo(15) == 0) {
            return upTo(23) - 1;
        }
        for (int n = 0; n < 200 && sort >= 0; n++) {
            int kind = upTo(21);
            if (Model.HAS[kind].indexOf('0' + sort) >= 0 && (kind != 21 || upTo(3) == 0)) {
                return kind;
            }
        }
        return upTo(21);
    }

    private int aFor(int kind) {
        if (upTo(30) == 0) {
            return Kinds.WILD[upTo(Kinds.WILD.length - 1)];
        }
        switch (kind) {
            case 17:
                return upTo(m.count(0)) - 1;
            case 2:
                return upTo(3) - 1;
            case 15:
            case 16:
            case 19:
                return upTo(9);
            default:
                return upTo(2);
        }
    }

    private List<int[]> nowAndThen() {
        List<int[]> some = new ArrayList<>();
        for (int what = 0; what < 18; what++) {
            some.add(new int[] {Calls.COUNT, what});
        }
        some.add(new int[] {Calls.DIGEST});
        for (int i = -2; i < 4; i++) {
            some.add(new int[] {Calls.RING, i});
            some.add(new int[] {Calls.TRACE, i});
        }
        for (; rowsSeen < m.count(11); rowsSeen++) {
            addRow(some, rowsSeen);
        }
        for (int t = Math.max(1, m.count(1) - 14); t <= m.count(1); t++) {
            addDeal(some, t);
        }
        for (int o = 0; o < m.count(0); o++) {
            addLocks(some, o);
        }
        int o = upTo(m.count(0));
        int e = upTo(m.count(4) + 1);
        some.add(new int[] {Calls.OBJECT, o, 3});
        some.add(new int[] {Calls.VERSION, o, e});
        some.add(new int[] {Calls.ENDED, e});
        some.add(new int[] {Calls.SERIAL});
        return some;
    }

    private static void addRow(List<int[]> some, int i) {
        for (int what = 0; what < 8; what++) {
            some.add(new int[] {Calls.ROW, i, what});
        }
    }

    private static void addDeal(List<int[]> some, int t) {
        for (int what = -1; what < 13; what++) {
            some.add(new int[] {Calls.OF, t, what});
        }
    }

    private void addLocks(List<int[]> some, int o) {
        boolean more = true;
        for (int i = 0; more; i++) {
            more = m.lock(o, i, 0) != Kinds.NONE || m.waits(o, i, 0) != Kinds.NONE;
            for (int what = 0; what < 4; what++) {
                some.add(new int[] {Calls.LOCK, o, i, what});
                some.add(new int[] {Calls.WAITS, o, i, what});
            }
        }
    }

    private List<int[]> inTheEnd() {
        List<int[]> all = nowAndThen();
        for (int t = 1; t <= m.count(1); t++) {
            addDeal(all, t);
        }
        for (int i = 0; i <= m.count(11); i++) {
            addRow(all, i);
        }
        for (int o = 0; o < m.count(0); o++) {
            for (int what = -1; what < 5; what++) {
                all.add(new int[] {Calls.OBJECT, o, what});
            }
            for (int e = 0; e <= m.count(4) + 1; e++) {
                all.add(new int[] {Calls.VERSION, o, e});
            }
        }
        for (int n = 0; n < 60; n++) {
            int sort = upTo(9) - 1;
            int kind = upTo(23) - 1;
            int kind2 = upTo(2) == 0 ? kindFor(sort) : upTo(23) - 1;
            int a = aFor(kind);
            int a2 = aFor(kind2);
            all.add(new int[] {Calls.COMMUTE, sort, kind, a, kind2, a2});
            all.add(new int[] {Calls.TRIED, sort, kind, a, kind2, a2});
        }
        return all;
    }
}
