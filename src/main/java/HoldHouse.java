import java.util.ArrayList;

/**
 * A desk of transactions on one thread of control. The capital words are those of the document:
 * a Deal is a TRANSACTION, a Thing is what an OBJECT has, a Shelf is all of them.
 */
public final class HoldHouse {
    public static final int BAD = -1, STATE = -2, FULL = -3, OLD = -6, NONE = -9;

    private static final int FOLDER = 0, COUNTER = 1, REGISTER = 2, SET = 3, QUEUE = 4, MAP = 5,
            ACCOUNT = 6, SLOT = 7, SORTS = 8;
    private static final int GET = 0, ADD = 1, BY = 2, PUT = 3, INSERT = 4, DELETE = 5, HAS = 6,
            SIZE = 7, ENTER = 8, LEAVE = 9, AT = 10, FIRST = 11, STORE = 12, DROP = 13, LOOK = 14,
            PAY = 15, DRAW = 16, POINT = 17, BUMP = 18, MOVE = 19, SUM = 20, HOLD = 21, KINDS = 22;
    private static final int FOUND_NULL = 1, FOUND_KIND = 2, FOUND_ZERO = 3, FOUND_INDEX = 4,
            FOUND_SIZE = 5, FOUND_SHORT = 6, FOUND_FULL = 7, FOUND_EMPTY = 8;
    private static final int LOCK_IS = 0, LOCK_IX = 1, LOCK_S = 2, LOCK_X = 3, LOCK_ACT = 4;
    private static final int RUNNING = 1, WAITING = 2, ENDED = 3, UNDONE = 4;
    private static final int WHY_RING = 1, WHY_LIMIT = 2, WHY_ASKED = 3, WHY_CUT = 4;
    private static final int ROW_MADE = 0, ROW_BEGIN = 1, ROW_ACT = 2, ROW_UNDONE = 3, ROW_END = 4,
            ROW_GONE = 5, ROW_REST = 6;

    private static final int MOST_OBJECTS = 40, MOST_FOLDERS = 5, MOST_VALUE = 1000000000,
            MOST_CELLS = 8, MOST_BODIES = 16, MOST_VERSIONS = 16;
    private static final int MOST_DEALS = 400, MOST_UNDER_WAY = 12, MOST_LEVEL = 4, MOST_ASKED = 700,
            MOST_LIMIT = 200, MOST_GROUP = 20, MOST_RULE = 3, MOST_RESTS = 100;
    private static final int MOST_SET_NUMBER = 31, MOST_PAID = 1000, MOST_FIRST = 64;
    // An ACT needs locks for one OBJECT or two, each with its FOLDERS: twelve locks at most, for each of
    // twelve TRANSACTIONS, so that both bounds stand far above what a call can need.
    private static final int LEGS = 2, MOST_NEEDS = 32, MOST_TURNS = 100000;

    // For each KIND the SORTS that have it, a bit each.
    private static final int[] SORTS_OF_KIND = {198, 66, 66, 4, 8, 8, 8, 56, 16, 16, 16, 16, 32, 32, 32,
        64, 64, 128, 128, 64, 1, 255};
    // The KINDS that are READING, a bit each; HOLD with 0 is one besides.
    private static final int READING_KINDS = 1 << GET | 1 << HAS | 1 << SIZE | 1 << AT | 1 << FIRST
            | 1 << LOOK | 1 << BUMP | 1 << SUM;
    // For each SORT how many small ones tried() looks at.
    private static final int[] SMALL_ONES = {1, 4, 4, 8, 3, 9, 4, 1};

    private final Shelf live = new Shelf();
    private final Shelf kept = new Shelf();
    private final Shelf trial = new Shelf();
    private final Spot[] spots = new Spot[MOST_OBJECTS];
    private final ArrayList<Deal> deals = new ArrayList<>();
    // In the order of their numbers, as all begin at its end: a seat less is a number less.
    private final ArrayList<Deal> underWay = new ArrayList<>();
    private final ArrayList<Deal> ends = new ArrayList<>();
    private final Log log = new Log();
    private final Ring latestRing = new Ring();
    private final Tally tally = new Tally();
    private int ruleNow = 0;
    private int limitNow = MOST_LIMIT;

    public HoldHouse() {
    }

    // ---- objects ----

    public int make(int sort, int parent, int v) {
        if (sort < 0 || sort >= SORTS) {
            return BAD;
        }
        Thing folder = live.thing(parent);
        if (parent != -1 && (folder == null || folder.sort != FOLDER)) {
            return BAD;
        }
        if (sort == ACCOUNT && (v < 0 || v > MOST_VALUE)) {
            return BAD;
        }
        if (!underWay.isEmpty()) {
            return STATE;
        }
        boolean tooDeep = sort == FOLDER && folder != null && folder.depth + 1 >= MOST_FOLDERS;
        if (live.size >= MOST_OBJECTS || tooDeep) {
            return FULL;
        }
        int o = live.size;
        int value = hasValue(sort) ? v : 0;
        live.put(sort, parent, value);
        kept.put(sort, parent, value);
        placeSpot(o);
        log.append(new Row(ROW_MADE, 0, o, sort, value, parent, 0));
        return o;
    }

    public int object(int o, int what) {
        Thing thing = live.thing(o);
        Thing keptThing = kept.thing(o);
        if (thing == null || keptThing == null) {
            return BAD;
        }
        switch (what) {
            case 0:
                return thing.sort;
            case 1:
                return thing.parent;
            case 2:
                return thing.summary();
            case 3:
                return keptThing.summary();
            default:
                return BAD;
        }
    }

    public int digest() {
        int d = 17;
        for (int o = 0; o < live.size; o++) {
            Thing thing = live.thing(o);
            d = 31 * d + (thing == null ? 0 : thing.summary());
        }
        return d;
    }

    // ---- transactions ----

    public int begin(int rank) {
        return start(rank, 0);
    }

    public int nest(int t) {
        Deal deal = dealOf(t);
        if (deal == null) {
            return BAD;
        }
        if (deal.state != RUNNING) {
            return STATE;
        }
        if (deal.level >= MOST_LEVEL) {
            return FULL;
        }
        deal.level++;
        deal.markLevel();
        return deal.level;
    }

    public int join(int t) {
        Deal deal = dealOf(t);
        if (deal == null) {
            return BAD;
        }
        if (deal.state != RUNNING || deal.level == 0) {
            return STATE;
        }
        for (int o = 0; o < live.size; o++) {
            Spot spot = spotOf(o);
            if (spot != null) {
                spot.lowerLevel(deal);
            }
        }
        deal.level--;
        return deal.level;
    }

    public int back(int t) {
        Deal deal = dealOf(t);
        if (deal == null) {
            return BAD;
        }
        if (deal.state != RUNNING || deal.level == 0) {
            return STATE;
        }
        int gone = undoActs(deal, deal.levelMark());
        freeLocks(deal, deal.level, 0);
        deal.level--;
        settle(null);
        return gone;
    }

    public int save(int t) {
        Deal deal = dealOf(t);
        if (deal == null) {
            return BAD;
        }
        return deal.state == RUNNING ? deal.acts : STATE;
    }

    public int backTo(int t, int acts) {
        Deal deal = dealOf(t);
        if (deal == null || acts > deal.acts || acts < deal.levelMark()) {
            return BAD;
        }
        if (deal.state != RUNNING) {
            return STATE;
        }
        return undoActs(deal, acts);
    }

    public int end(int t) {
        Deal deal = dealOf(t);
        if (deal == null) {
            return BAD;
        }
        if (deal.state != RUNNING || deal.level > 0) {
            return STATE;
        }
        ends.add(deal);
        deal.end = ends.size();
        log.append(new Row(ROW_END, deal.number, -1, -1, 0, 0, deal.end));
        log.forceByGroup();
        redo(deal, log.size(), kept);
        tellVersions(deal, log.size());
        leave(deal);
        deal.state = ENDED;
        settle(null);
        return deal.end;
    }

    public int undo(int t) {
        Deal deal = dealOf(t);
        if (deal == null) {
            return BAD;
        }
        if (!deal.isUnderWay()) {
            return STATE;
        }
        int gone = undoWhole(deal, WHY_ASKED);
        settle(null);
        return gone;
    }

    public int retry(int t) {
        Deal deal = dealOf(t);
        if (deal == null) {
            return BAD;
        }
        if (deal.state != UNDONE || (deal.why != WHY_RING && deal.why != WHY_LIMIT)) {
            return STATE;
        }
        return start(deal.rank, deal.tries + 1);
    }

    public int act(int t, int o, int kind, int a, int b) {
        Deal deal = dealOf(t);
        if (deal == null || live.thing(o) == null || !fits(kind, a, live.size)) {
            return BAD;
        }
        if (kind == MOVE && (live.thing(b) == null || b == o)) {
            return BAD;
        }
        if (deal.state != RUNNING) {
            return STATE;
        }
        if (tally.asked >= MOST_ASKED) {
            return FULL;
        }
        if (deal.asked >= limitNow) {
            undoWhole(deal, WHY_LIMIT);
            settle(null);
            return deal.outcome();
        }
        deal.asked++;
        tally.asked++;
        deal.ask.set(o, kind, a, b);
        settle(deal);
        return deal.outcome();
    }

    public int of(int t, int what) {
        Deal deal = dealOf(t);
        if (deal == null) {
            return BAD;
        }
        switch (what) {
            case 0:
                return deal.state;
            case 1:
                return deal.why;
            case 2:
                return deal.level;
            case 3:
                return deal.rank;
            case 4:
                return deal.tries;
            case 5:
                return deal.acts;
            case 6:
                return deal.asked;
            case 7:
                return deal.answer;
            case 8:
                return deal.finding;
            case 9:
                return deal.waiting == null ? NONE : deal.waiting.place;
            case 10:
                return locksOf(deal);
            case 11:
                return deal.end;
            default:
                return BAD;
        }
    }

    // ---- locks and rings ----

    public int lock(int o, int i, int what) {
        Spot spot = spotOf(o);
        if (spot == null || what < 0 || what > 3) {
            return BAD;
        }
        if (i < 0 || i >= spot.held.size()) {
            return NONE;
        }
        return spot.held.get(i).tell(what);
    }

    public int waits(int o, int i, int what) {
        Spot spot = spotOf(o);
        if (spot == null || what < 0 || what > 3) {
            return BAD;
        }
        if (i < 0 || i >= spot.queue.size()) {
            return NONE;
        }
        return spot.queue.get(i).tell(what);
    }

    public int ring(int i) {
        return latestRing.member(i);
    }

    public int rule(int r) {
        if (r < 0 || r > MOST_RULE) {
            return BAD;
        }
        int before = ruleNow;
        ruleNow = r;
        return before;
    }

    public int limit(int n) {
        if (n < 1 || n > MOST_LIMIT) {
            return BAD;
        }
        int before = limitNow;
        limitNow = n;
        return before;
    }

    // ---- the log ----

    public int group(int n) {
        if (n < 1 || n > MOST_GROUP) {
            return BAD;
        }
        int before = log.group;
        log.group = n;
        return before;
    }

    public int rest() {
        if (!underWay.isEmpty()) {
            return STATE;
        }
        if (tally.rests >= MOST_RESTS) {
            return FULL;
        }
        tally.rests++;
        log.append(new Row(ROW_REST, 0, -1, -1, 0, 0, 0));
        log.forceAll();
        return log.size();
    }

    public int cut(int n) {
        if (n < 0 || n > log.size()) {
            return BAD;
        }
        dropBehind(n);
        rebuild();
        return ends.size();
    }

    public int crash() {
        dropBehind(log.forced);
        rebuild();
        return ends.size();
    }

    public int row(int i, int what) {
        if (what < 0 || what > 7) {
            return BAD;
        }
        Row row = log.at(i);
        return row == null ? NONE : row.tell(what);
    }

    public int ended(int e) {
        return e < 1 || e > ends.size() ? NONE : ends.get(e - 1).number;
    }

    public int version(int o, int e) {
        Spot spot = spotOf(o);
        if (spot == null || e < 0) {
            return BAD;
        }
        return spot.versionAt(e);
    }

    // ---- questions ----

    public int commute(int sort, int kind, int a, int kind2, int a2) {
        if (sort < 0 || sort >= SORTS || kind < 0 || kind >= KINDS || kind2 < 0 || kind2 >= KINDS) {
            return BAD;
        }
        return agree(sort, kind, a, kind2, a2) ? 1 : 0;
    }

    public int tried(int sort, int kind, int a, int kind2, int a2) {
        if (sort < 0 || sort >= SORTS || !canTry(sort, kind, a) || !canTry(sort, kind2, a2)) {
            return BAD;
        }
        for (int small = 0; small < SMALL_ONES[sort]; small++) {
            if (!sameEitherWay(sort, small, kind, a, kind2, a2)) {
                return 0;
            }
        }
        return 1;
    }

    public int serial() {
        trial.size = 0;
        for (int i = 0; i < log.size(); i++) {
            Row row = log.at(i);
            if (row != null && row.which == ROW_MADE) {
                trial.put(row.kind, row.b, row.a);
            }
            if (row != null && row.which == ROW_END && !redo(dealOf(row.deal), i, trial)) {
                return 0;
            }
        }
        return trial.sameAs(kept) ? 1 : 0;
    }

    public int trace(int i) {
        return live.report.bodyAt(i);
    }

    public int count(int what) {
        switch (what) {
            case 0:
                return live.size;
            case 1:
                return deals.size();
            case 2:
                return inState(RUNNING);
            case 3:
                return inState(WAITING);
            case 4:
                return ends.size();
            case 5:
                return tally.undone;
            case 6:
                return tally.rings;
            case 7:
                return allLocks();
            case 8:
                return tally.asked;
            case 9:
                return tally.done;
            case 10:
                return tally.findings;
            case 11:
                return log.size();
            case 12:
                return log.forced;
            case 13:
            case 14:
                return tally.locksAsked;
            case 15:
                return limitNow;
            case 16:
                return ruleNow;
            case 17:
                return log.group;
            default:
                return BAD;
        }
    }

    // ---- what acts are ----

    private static boolean hasValue(int sort) {
        return sort == COUNTER || sort == REGISTER || sort == ACCOUNT;
    }

    private static boolean sortHas(int sort, int kind) {
        return kind >= 0 && kind < KINDS && (SORTS_OF_KIND[kind] >> sort & 1) == 1;
    }

    private static boolean isReading(int kind, int a) {
        return (READING_KINDS >> kind & 1) == 1 || (kind == HOLD && a == 0);
    }

    /** Whether KIND and a are such as act() takes, POINT of the OBJECTS below a number. */
    private static boolean fits(int kind, int a, int objects) {
        switch (kind) {
            case INSERT:
            case DELETE:
            case HAS:
                return a >= 0 && a <= MOST_SET_NUMBER;
            case STORE:
            case DROP:
            case LOOK:
                return a >= 0 && a < MOST_CELLS;
            case PAY:
            case DRAW:
            case MOVE:
                return a >= 0 && a <= MOST_PAID;
            case HOLD:
                return a == 0 || a == 1;
            case FIRST:
                return a <= MOST_FIRST;
            case POINT:
                return a >= -1 && a < objects;
            default:
                return kind >= 0 && kind < KINDS;
        }
    }

    /** Whether two ACTS COMMUTE on a SORT. */
    private static boolean agree(int sort, int kind, int a, int kind2, int a2) {
        if (kind >= SUM || kind2 >= SUM) {
            return false;
        }
        if (isReading(kind, a) && isReading(kind2, a2)) {
            return true;
        }
        switch (sort) {
            case COUNTER:
                return kind == ADD && kind2 == ADD;
            case ACCOUNT:
                return kind == PAY && kind2 == PAY;
            case SET:
                return a != a2 && isIn(kind, INSERT, HAS) && isIn(kind2, INSERT, HAS);
            case MAP:
                return a != a2 && isIn(kind, STORE, LOOK) && isIn(kind2, STORE, LOOK);
            default:
                return false;
        }
    }

    private static boolean isIn(int kind, int least, int most) {
        return kind >= least && kind <= most;
    }

    private static boolean canTry(int sort, int kind, int a) {
        return kind < BUMP && sortHas(sort, kind) && fits(kind, a, 0);
    }

    private boolean sameEitherWay(int sort, int small, int kind, int a, int kind2, int a2) {
        trial.size = 0;
        trial.put(sort, -1, 0);
        trial.put(sort, -1, 0);
        Thing one = trial.thing(0);
        Thing other = trial.thing(1);
        if (one == null || other == null) {
            return false;
        }
        one.becomeSmall(small);
        other.becomeSmall(small);
        long first = trial.outcome(0, kind, a, 1);
        long second = trial.outcome(0, kind2, a2, 1);
        long secondAhead = trial.outcome(1, kind2, a2, 1);
        long firstBehind = trial.outcome(1, kind, a, 1);
        return first == firstBehind && second == secondAhead && one.sameAs(other);
    }

    // ---- finding things ----

    private Deal dealOf(int t) {
        return t < 1 || t > deals.size() ? null : deals.get(t - 1);
    }

    private Spot spotOf(int o) {
        return o < 0 || o >= live.size || o >= spots.length ? null : spots[o];
    }

    private int inState(int state) {
        int many = 0;
        for (int i = 0; i < underWay.size(); i++) {
            if (underWay.get(i).state == state) {
                many++;
            }
        }
        return many;
    }

    private int locksOf(Deal deal) {
        int many = 0;
        for (int o = 0; o < live.size; o++) {
            Spot spot = spotOf(o);
            many += spot == null ? 0 : spot.locksOf(deal);
        }
        return many;
    }

    private int allLocks() {
        int many = 0;
        for (int o = 0; o < live.size; o++) {
            Spot spot = spotOf(o);
            many += spot == null ? 0 : spot.held.size();
        }
        return many;
    }

    /** Makes the place of OBJECT o as it is when o is MADE; the old one is used again. */
    private void placeSpot(int o) {
        Thing thing = kept.thing(o);
        if (thing == null || o >= spots.length) {
            return;
        }
        if (spots[o] == null) {
            spots[o] = new Spot();
        }
        spots[o].reset(thing.sort, thing.summary());
    }

    // ---- beginning and leaving ----

    private int start(int rank, int tries) {
        if (deals.size() >= MOST_DEALS || underWay.size() >= MOST_UNDER_WAY) {
            return FULL;
        }
        Deal deal = new Deal(deals.size() + 1, rank, tries);
        deal.firstRow = log.size();
        deal.seat = underWay.size();
        deals.add(deal);
        underWay.add(deal);
        log.append(new Row(ROW_BEGIN, deal.number, -1, -1, 0, 0, 0));
        return deal.number;
    }

    /** Locks, wait and LEVEL of one that has ended or is UNDONE are gone. */
    private void leave(Deal deal) {
        freeLocks(deal, 0, 0);
        if (deal.waiting != null) {
            Spot spot = spotOf(deal.waiting.place);
            if (spot != null) {
                spot.dropWait(deal.waiting);
            }
            deal.waiting = null;
        }
        deal.level = 0;
        if (deal.seat >= 0 && deal.seat < underWay.size()) {
            underWay.remove(deal.seat);
        }
        for (int i = 0; i < underWay.size(); i++) {
            underWay.get(i).seat = i;
        }
    }

    /** Frees the locks of a LEVEL and above that were granted for an ACT and later ones. */
    private void freeLocks(Deal deal, int leastLevel, int leastAsked) {
        for (int o = 0; o < live.size; o++) {
            Spot spot = spotOf(o);
            if (spot != null) {
                spot.free(deal, leastLevel, leastAsked);
            }
        }
    }

    private int undoWhole(Deal deal, int why) {
        int gone = undoActs(deal, 0);
        log.append(new Row(ROW_GONE, deal.number, -1, -1, 0, 0, 0));
        leave(deal);
        deal.state = UNDONE;
        deal.why = why;
        tally.undone++;
        return gone;
    }

    /** Undoes the latest ACTS until so many are left: how many were undone. */
    private int undoActs(Deal deal, int left) {
        int gone = 0;
        for (int i = log.size() - 1; i >= deal.firstRow && deal.acts > left; i--) {
            Row row = log.at(i);
            if (row != null && row.isActOf(deal)) {
                live.revert(row);
                row.undone = true;
                log.append(row.contrary(i));
                deal.acts--;
                gone++;
            }
        }
        return gone;
    }

    // ---- asking and settling ----

    /** Lets an ACT go on (if one is given), and then each whose lock can be GRANTED. */
    private void settle(Deal asker) {
        Deal going = asker;
        for (int turn = 0; turn < MOST_TURNS; turn++) {
            if (going != null && getsAll(going)) {
                carryOut(going);
            } else if (going != null) {
                breakRings(going);
            }
            going = grantFirst();
            if (going == null) {
                return;
            }
        }
    }

    /** Asks for what the ACT still needs: whether it has all; if not, it WAITS. */
    private boolean getsAll(Deal deal) {
        for (int n = 0; n < MOST_NEEDS; n++) {
            Lock need = nextNeed(deal);
            Spot spot = need == null ? null : spotOf(need.place);
            if (spot == null) {
                return true;
            }
            tally.locksAsked++;
            if (!spot.ask(need)) {
                deal.waiting = need;
                deal.state = WAITING;
                return false;
            }
            deal.ask.step++;
        }
        return true;
    }

    /** The lock that the ACT needs now, null behind the last. */
    private Lock nextNeed(Deal deal) {
        Ask ask = deal.ask;
        for (int n = 0; n < LEGS && ask.leg < LEGS; n++) {
            int place = legPlace(ask);
            Thing thing = live.thing(place);
            if (thing != null && ask.step < thing.depth) {
                int which = isReading(ask.legKind(place), ask.a) ? LOCK_IS : LOCK_IX;
                return new Lock(deal, live.folderOf(place, ask.step), which, NONE, NONE);
            }
            if (thing != null && ask.step == thing.depth) {
                return lockOn(deal, place, ask.legKind(place), ask.a);
            }
            ask.nextLeg();
        }
        return null;
    }

    /** The OBJECT of the first or second part of an ACT's needs, -1 if it has no such part. */
    private int legPlace(Ask ask) {
        if (ask.kind == MOVE) {
            return ask.leg == 0 ? Math.min(ask.place, ask.b) : Math.max(ask.place, ask.b);
        }
        if (ask.leg == 0) {
            return ask.place;
        }
        return ask.kind == BUMP ? live.numberIn(ask.place) : -1;
    }

    private static Lock lockOn(Deal deal, int place, int kind, int a) {
        if (kind == SUM || (kind == HOLD && a == 0)) {
            return new Lock(deal, place, LOCK_S, NONE, NONE);
        }
        if (kind == HOLD) {
            return new Lock(deal, place, LOCK_X, NONE, NONE);
        }
        return new Lock(deal, place, LOCK_ACT, kind, a);
    }

    /** Does the ACT, all of whose locks are held. */
    private void carryOut(Deal deal) {
        Ask ask = deal.ask;
        int b = ask.kind == BUMP ? live.numberIn(ask.place) : ask.b;
        live.perform(ask.place, ask.kind, ask.a, ask.b);
        Report report = live.report;
        deal.finding = report.finding;
        if (report.finding != 0) {
            tally.findings++;
            freeLocks(deal, 0, deal.asked);
            return;
        }
        tally.done++;
        deal.acts++;
        deal.answer = report.answer;
        Row row = new Row(ROW_ACT, deal.number, ask.place, ask.kind, ask.a, b, report.answer);
        row.saved = report.saved;
        log.append(row);
    }

    /** Grants the first lock that can be: its TRANSACTION, or null. */
    private Deal grantFirst() {
        for (int o = 0; o < live.size; o++) {
            Spot spot = spotOf(o);
            Lock granted = spot == null ? null : spot.grantFirst();
            if (granted != null) {
                Deal deal = granted.deal;
                deal.waiting = null;
                deal.state = RUNNING;
                deal.ask.step++;
                return deal;
            }
        }
        return null;
    }

    /** Undoes VICTIMS as long as the one that begins to WAIT is in a RING. */
    private void breakRings(Deal waiter) {
        for (int n = 0; n < MOST_UNDER_WAY && waiter.waiting != null; n++) {
            drawEdges();
            if (!latestRing.find(waiter.seat)) {
                return;
            }
            tally.rings++;
            Deal victim = chooseVictim();
            if (victim == null) {
                return;
            }
            latestRing.victim = victim.number;
            undoWhole(victim, WHY_RING);
        }
    }

    /** Tells the search for RINGS who waits for whom, as things are now. */
    private void drawEdges() {
        for (int i = 0; i < underWay.size(); i++) {
            Deal deal = underWay.get(i);
            Spot spot = deal.waiting == null ? null : spotOf(deal.waiting.place);
            int waitsFor = spot == null ? 0 : spot.blockers(deal.waiting, spot.placeOf(deal.waiting));
            latestRing.draw(i, deal.number, waitsFor);
        }
    }

    private Deal chooseVictim() {
        Deal victim = null;
        for (int i = 0; i < latestRing.size; i++) {
            Deal deal = dealOf(latestRing.member(i));
            if (deal != null && (victim == null || deal.goesAheadOf(victim, ruleNow))) {
                victim = deal;
            }
        }
        return victim;
    }

    // ---- ends and cuts ----

    /** Does the ACTS of one, which stand ahead of a row: whether all answer as they did. */
    private boolean redo(Deal deal, int aheadOf, Shelf shelf) {
        if (deal == null) {
            return false;
        }
        boolean same = true;
        for (int i = deal.firstRow; i < aheadOf; i++) {
            Row row = log.at(i);
            if (row != null && row.isActOf(deal)) {
                shelf.perform(row.place, row.kind, row.a, row.b);
                same = same && shelf.report.finding == 0 && shelf.report.answer == row.answer;
            }
        }
        return same;
    }

    /** Keeps a VERSION of each OBJECT on which one's ACTS, which stand ahead of a row, WRITE. */
    private void tellVersions(Deal deal, int aheadOf) {
        long written = 0;
        for (int i = deal.firstRow; i < aheadOf; i++) {
            Row row = log.at(i);
            if (row != null && row.isActOf(deal)) {
                written |= row.written();
            }
        }
        for (int o = 0; o < live.size; o++) {
            Spot spot = spotOf(o);
            Thing thing = kept.thing(o);
            if (spot != null && thing != null && (written >> o & 1) == 1) {
                spot.keepVersion(deal.end, thing.summary());
            }
        }
    }

    /** The rows from n on are gone, and with them ENDS; what is under way is UNDONE. */
    private void dropBehind(int n) {
        for (int i = underWay.size() - 1; i >= 0; i--) {
            undoByCut(underWay.get(i));
        }
        underWay.clear();
        for (int i = log.size() - 1; i >= n; i--) {
            Row row = log.at(i);
            if (row != null && row.which == ROW_END && !ends.isEmpty()) {
                undoByCut(ends.remove(ends.size() - 1));
            }
            log.removeLast();
        }
        log.forceAll();
        latestRing.forget();
    }

    private void undoByCut(Deal deal) {
        deal.state = UNDONE;
        deal.why = WHY_CUT;
        deal.acts = 0;
        deal.level = 0;
        deal.end = NONE;
        deal.waiting = null;
        tally.undone++;
    }

    /** Makes OBJECTS, THE KEPT and VERSIONS out of the rows; no locks and waits are left. */
    private void rebuild() {
        kept.size = 0;
        live.size = 0;
        for (int i = 0; i < log.size(); i++) {
            Row row = log.at(i);
            if (row != null && row.which == ROW_MADE) {
                kept.put(row.kind, row.b, row.a);
                live.size = kept.size;
                placeSpot(row.place);
            }
            Deal deal = row != null && row.which == ROW_END ? dealOf(row.deal) : null;
            if (deal != null) {
                redo(deal, i, kept);
                tellVersions(deal, i);
            }
        }
        live.copyFrom(kept);
    }

    // ---- the classes inside ----

    /** What an ACT tells: its ANSWER or its FINDING, what its contrary needs, its BODIES. */
    private static final class Report {
        int answer;
        int finding;
        int saved;
        int told;
        final int[] bodies = new int[MOST_BODIES];

        void clear() {
            answer = 0;
            finding = 0;
            saved = 0;
            told = 0;
        }

        void body(int number) {
            if (told >= 0 && told < bodies.length) {
                bodies[told] = number;
                told++;
            }
        }

        int bodyAt(int i) {
            return i < 0 || i >= told || i >= bodies.length ? NONE : bodies[i];
        }
    }

    /** What an OBJECT has. */
    private static final class Thing {
        int sort;
        int parent;
        int depth;
        // The VALUE; a SLOT's number; a SET's bits; how many a QUEUE has; bits of a MAP's KEYS.
        int value;
        final int[] cells = new int[MOST_CELLS];

        void reset(int newSort, int newParent, int newDepth, int v) {
            sort = newSort;
            parent = newParent;
            depth = newDepth;
            value = newSort == SLOT ? -1 : hasValue(newSort) ? v : 0;
        }

        void copyFrom(Thing other) {
            reset(other.sort, other.parent, other.depth, 0);
            value = other.value;
            System.arraycopy(other.cells, 0, cells, 0, MOST_CELLS);
        }

        /** Becomes the small one of a number, of those that tried() looks at. */
        void becomeSmall(int small) {
            switch (sort) {
                case QUEUE:
                    value = small == 0 ? 0 : 1;
                    cells[0] = small - 1;
                    break;
                case MAP:
                    // Each KEY has three ways: none, 0, 1.
                    value = (small % 3 > 0 ? 1 : 0) + (small / 3 > 0 ? 2 : 0);
                    cells[0] = small % 3 - 1;
                    cells[1] = small / 3 - 1;
                    break;
                case SLOT:
                    value = -1;
                    break;
                default:
                    value = small;
                    break;
            }
        }

        boolean hasKey(int key) {
            return (value >> key & 1) == 1;
        }

        int queued() {
            return value < 0 || value > MOST_CELLS ? 0 : value;
        }

        int summary() {
            if (sort != QUEUE && sort != MAP) {
                return value;
            }
            int d = 17;
            int many = sort == QUEUE ? queued() : MOST_CELLS;
            for (int i = 0; i < many; i++) {
                if (sort == QUEUE) {
                    d = 31 * d + cells[i];
                } else {
                    d = hasKey(i) ? 31 * d + cells[i] + 1 : 31 * d;
                }
            }
            return d;
        }

        boolean sameAs(Thing other) {
            if (sort != other.sort || parent != other.parent || value != other.value) {
                return false;
            }
            for (int i = 0; i < MOST_CELLS; i++) {
                boolean used = (sort == QUEUE && i < value) || (sort == MAP && hasKey(i));
                if (used && cells[i] != other.cells[i]) {
                    return false;
                }
            }
            return true;
        }

        /** Does an ACT that is on this alone, and that its SORT has. */
        void run(int kind, int a, int b, Report report) {
            switch (kind) {
                case GET:
                    report.body(sort == SLOT ? 2 : 1);
                    report.answer = value;
                    break;
                case ADD:
                    add(a, report);
                    break;
                case BY:
                    divide(a, report);
                    break;
                case PUT:
                case POINT:
                    report.body(kind == PUT ? 6 : 21);
                    report.answer = value;
                    value = a;
                    break;
                case SIZE:
                    report.body(sort == SET ? 11 : 10);
                    report.answer = sort == QUEUE ? value : Integer.bitCount(value);
                    break;
                case PAY:
                    pay(a, report);
                    break;
                case DRAW:
                    draw(a, report);
                    break;
                case HOLD:
                    report.answer = a;
                    break;
                default:
                    runOnMany(kind, a, b, report);
                    break;
            }
        }

        private void runOnMany(int kind, int a, int b, Report report) {
            switch (sort) {
                case SET:
                    runOnSet(kind, a, report);
                    break;
                case QUEUE:
                    runOnQueue(kind, a, report);
                    break;
                case MAP:
                    runOnMap(kind, a, b, report);
                    break;
                default:
                    break;
            }
        }

        /** PAY, also as the second part of MOVE, where the SORT may have none. */
        void pay(int a, Report report) {
            if (sort != ACCOUNT) {
                report.finding = FOUND_KIND;
                return;
            }
            report.body(19);
            add(a, report);
        }

        void draw(int a, Report report) {
            report.body(20);
            add(-a, report);
            report.answer = report.finding == 0 ? a : 0;
        }

        /** ADD, also as the second part of BUMP, where the SORT may have none. */
        void add(int a, Report report) {
            if (sort != COUNTER && sort != ACCOUNT) {
                report.finding = FOUND_KIND;
                return;
            }
            if (sort == ACCOUNT) {
                report.body(4);
                long sum = (long) value + a;
                if (sum < 0) {
                    report.finding = FOUND_SHORT;
                    return;
                }
                if (sum > MOST_VALUE) {
                    report.finding = FOUND_FULL;
                    return;
                }
            }
            report.body(3);
            value += a;
            report.answer = a;
        }

        private void divide(int a, Report report) {
            if (sort == ACCOUNT) {
                report.body(25);
                if (a < 0) {
                    report.finding = FOUND_SHORT;
                    return;
                }
            }
            report.body(5);
            if (a == 0) {
                report.finding = FOUND_ZERO;
                return;
            }
            report.saved = value;
            value = value / a;
            report.answer = value;
        }

        private void runOnSet(int kind, int a, Report report) {
            int bit = 1 << a;
            boolean there = (value & bit) != 0;
            if (kind == INSERT) {
                report.body(7);
                value |= bit;
                report.answer = there ? 0 : 1;
            } else if (kind == DELETE) {
                report.body(8);
                value &= ~bit;
                report.answer = there ? 1 : 0;
            } else {
                report.body(9);
                report.answer = there ? 1 : 0;
            }
        }

        private void runOnQueue(int kind, int a, Report report) {
            int many = queued();
            if (kind == ENTER) {
                report.body(12);
                if (many >= MOST_CELLS) {
                    report.finding = FOUND_FULL;
                    return;
                }
                cells[many] = a;
                value = many + 1;
                report.answer = many;
            } else if (kind == LEAVE) {
                report.body(13);
                if (many == 0) {
                    report.finding = FOUND_EMPTY;
                    return;
                }
                report.answer = cells[0];
                System.arraycopy(cells, 1, cells, 0, many - 1);
                value = many - 1;
            } else if (kind == AT) {
                report.body(14);
                if (a < 0 || a >= many) {
                    report.finding = FOUND_INDEX;
                    return;
                }
                report.answer = cells[a];
            } else {
                report.body(15);
                sumOfFirst(a, many, report);
            }
        }

        private void sumOfFirst(int a, int many, Report report) {
            if (a < 0) {
                report.finding = FOUND_SIZE;
                return;
            }
            if (a > many) {
                report.finding = FOUND_INDEX;
                return;
            }
            int sum = 0;
            for (int i = 0; i < a && i < MOST_CELLS; i++) {
                sum += cells[i];
            }
            report.answer = sum;
        }

        private void runOnMap(int kind, int key, int b, Report report) {
            if (key < 0 || key >= MOST_CELLS) {
                return;
            }
            report.body(kind == STORE ? 16 : kind == DROP ? 17 : 18);
            boolean there = hasKey(key);
            if (!there && kind != STORE) {
                report.finding = FOUND_NULL;
                return;
            }
            report.answer = there ? cells[key] : 0;
            if (kind == STORE) {
                report.saved = there ? 1 : 0;
                cells[key] = b;
                value |= 1 << key;
            } else if (kind == DROP) {
                value &= ~(1 << key);
            }
        }

        /** Does the contrary of an ACT that was DONE on this alone. */
        void revert(int kind, int a, int answer, int saved) {
            switch (kind) {
                case ADD:
                case PAY:
                    value -= a;
                    break;
                case DRAW:
                    value += a;
                    break;
                case BY:
                    value = saved;
                    break;
                case PUT:
                case POINT:
                    value = answer;
                    break;
                case INSERT:
                    value = answer == 1 ? value & ~(1 << a) : value;
                    break;
                case DELETE:
                    value = answer == 1 ? value | 1 << a : value;
                    break;
                case ENTER:
                    value = Math.max(0, value - 1);
                    break;
                case LEAVE:
                    putFirst(answer);
                    break;
                case STORE:
                case DROP:
                    putBack(a, answer, kind == DROP || saved == 1);
                    break;
                default:
                    break;
            }
        }

        private void putFirst(int first) {
            for (int i = MOST_CELLS - 1; i > 0; i--) {
                cells[i] = cells[i - 1];
            }
            cells[0] = first;
            value++;
        }

        private void putBack(int key, int before, boolean wasThere) {
            if (key < 0 || key >= MOST_CELLS) {
                return;
            }
            if (wasThere) {
                cells[key] = before;
                value |= 1 << key;
            } else {
                value &= ~(1 << key);
            }
        }
    }

    /** One of each OBJECT, and what the latest ACT on them told. */
    private static final class Shelf {
        final Thing[] things = new Thing[MOST_OBJECTS];
        int size;
        final Report report = new Report();

        Thing thing(int o) {
            return o < 0 || o >= size || o >= things.length ? null : things[o];
        }

        void put(int sort, int parent, int v) {
            if (size < 0 || size >= things.length) {
                return;
            }
            Thing folder = thing(parent);
            if (things[size] == null) {
                things[size] = new Thing();
            }
            things[size].reset(sort, parent, folder == null ? 0 : folder.depth + 1, v);
            size++;
        }

        /** The FOLDER in which an OBJECT lies, the outermost being 0. */
        int folderOf(int o, int which) {
            int at = o;
            Thing thing = thing(at);
            for (int i = 0; i <= MOST_FOLDERS && thing != null && thing.depth > which; i++) {
                at = thing.parent;
                thing = thing(at);
            }
            return at;
        }

        /** The number that a SLOT has; -1 of any other OBJECT. */
        int numberIn(int o) {
            Thing thing = thing(o);
            return thing == null || thing.sort != SLOT ? -1 : thing.value;
        }

        void perform(int o, int kind, int a, int b) {
            report.clear();
            Thing thing = thing(o);
            if (thing == null) {
                return;
            }
            if (!sortHas(thing.sort, kind)) {
                report.finding = FOUND_KIND;
            } else if (kind == BUMP) {
                bump(thing, a);
            } else if (kind == MOVE) {
                move(thing, a, b);
            } else if (kind == SUM) {
                sumBelow(o);
            } else {
                thing.run(kind, a, b, report);
            }
        }

        private void bump(Thing slot, int a) {
            report.body(22);
            Thing target = thing(slot.value);
            if (target == null) {
                report.finding = FOUND_NULL;
            } else {
                target.add(a, report);
            }
        }

        private void move(Thing from, int a, int b) {
            report.body(23);
            from.draw(a, report);
            Thing to = thing(b);
            if (report.finding != 0 || to == null) {
                return;
            }
            to.pay(a, report);
            if (report.finding != 0) {
                from.revert(DRAW, a, a, 0);
                report.answer = 0;
            }
        }

        private void sumBelow(int folder) {
            report.body(24);
            int sum = 0;
            for (int o = 0; o < size; o++) {
                Thing thing = thing(o);
                if (thing != null && hasValue(thing.sort) && liesIn(thing, folder)) {
                    report.body(1);
                    sum += thing.value;
                }
            }
            report.answer = sum;
        }

        private boolean liesIn(Thing inner, int folder) {
            Thing at = inner;
            for (int i = 0; i <= MOST_FOLDERS && at != null; i++) {
                if (at.parent == folder) {
                    return true;
                }
                at = thing(at.parent);
            }
            return false;
        }

        /** ANSWER and FINDING of an ACT in one number. */
        long outcome(int o, int kind, int a, int b) {
            perform(o, kind, a, b);
            return (long) report.finding << 32 | report.answer & 0xffffffffL;
        }

        /** Does the contrary of the ACT of a row. */
        void revert(Row row) {
            Thing thing = thing(row.place);
            Thing other = thing(row.b);
            if (row.kind == BUMP && other != null) {
                other.revert(ADD, row.a, 0, 0);
            } else if (row.kind == MOVE && thing != null && other != null) {
                other.revert(PAY, row.a, 0, 0);
                thing.revert(DRAW, row.a, 0, 0);
            } else if (thing != null) {
                thing.revert(row.kind, row.a, row.answer, row.saved);
            }
        }

        boolean sameAs(Shelf shelf) {
            if (size != shelf.size) {
                return false;
            }
            for (int o = 0; o < size; o++) {
                Thing mine = thing(o);
                Thing other = shelf.thing(o);
                if (mine == null || other == null || !mine.sameAs(other)) {
                    return false;
                }
            }
            return true;
        }

        void copyFrom(Shelf shelf) {
            size = 0;
            for (int o = 0; o < shelf.size; o++) {
                Thing other = shelf.thing(o);
                put(FOLDER, -1, 0);
                Thing mine = thing(o);
                if (mine != null && other != null) {
                    mine.copyFrom(other);
                }
            }
        }
    }

    /** A lock that is held or waits. */
    private static final class Lock {
        final Deal deal;
        final int place;
        final int which;
        final int kind;
        final int a;
        // The number of the ACT, among those that its TRANSACTION asked, for which it was granted.
        final int asked;
        int level;
        // Whether its TRANSACTION held a lock on the OBJECT when it began to wait.
        boolean early;

        Lock(Deal deal, int place, int which, int kind, int a) {
            this.deal = deal;
            this.place = place;
            this.which = which;
            this.kind = kind;
            this.a = a;
            this.asked = deal.asked;
            this.level = deal.level;
        }

        boolean sameAs(Lock other) {
            return deal == other.deal && which == other.which && kind == other.kind && a == other.a;
        }

        boolean conflicts(Lock other, int sort) {
            if (deal == other.deal) {
                return false;
            }
            if (which == LOCK_X || other.which == LOCK_X) {
                return true;
            }
            if (which == LOCK_ACT && other.which == LOCK_ACT) {
                return !agree(sort, kind, a, other.kind, other.a);
            }
            return (which == LOCK_S && other.hindersS()) || (other.which == LOCK_S && hindersS());
        }

        private boolean hindersS() {
            return which == LOCK_IX || (which == LOCK_ACT && !isReading(kind, a));
        }

        int tell(int what) {
            switch (what) {
                case 0:
                    return deal.number;
                case 1:
                    return which;
                case 2:
                    return kind;
                default:
                    return a;
            }
        }
    }

    /** The locks, waits and VERSIONS of an OBJECT. */
    private static final class Spot {
        int sort;
        final ArrayList<Lock> held = new ArrayList<>();
        final ArrayList<Lock> queue = new ArrayList<>();
        int versions;
        final int[] versionEnds = new int[MOST_VERSIONS];
        final int[] versionDigests = new int[MOST_VERSIONS];

        void reset(int newSort, int digestAsMade) {
            sort = newSort;
            held.clear();
            queue.clear();
            versions = 0;
            keepVersion(0, digestAsMade);
        }

        /** Asks for a lock: whether it is held now; if not, it waits. */
        boolean ask(Lock need) {
            int place = 0;
            for (int i = 0; i < held.size(); i++) {
                if (held.get(i).sameAs(need)) {
                    return true;
                }
                need.early = need.early || held.get(i).deal == need.deal;
            }
            while (place < queue.size() && (!need.early || queue.get(place).early)) {
                place++;
            }
            if (blockers(need, place) == 0) {
                held.add(need);
                return true;
            }
            queue.add(place, need);
            return false;
        }

        /** The seats of those that hold, or wait ahead of a place for, what a lock CONFLICTS with. */
        int blockers(Lock need, int place) {
            int seats = 0;
            for (int i = 0; i < held.size(); i++) {
                if (need.conflicts(held.get(i), sort)) {
                    seats |= 1 << held.get(i).deal.seat;
                }
            }
            for (int i = 0; i < place && i < queue.size(); i++) {
                if (need.conflicts(queue.get(i), sort)) {
                    seats |= 1 << queue.get(i).deal.seat;
                }
            }
            return seats;
        }

        int placeOf(Lock waiting) {
            for (int i = 0; i < queue.size(); i++) {
                if (queue.get(i) == waiting) {
                    return i;
                }
            }
            return queue.size();
        }

        void dropWait(Lock waiting) {
            int place = placeOf(waiting);
            if (place < queue.size()) {
                queue.remove(place);
            }
        }

        Lock grantFirst() {
            for (int i = 0; i < queue.size(); i++) {
                Lock waiting = queue.get(i);
                if (blockers(waiting, i) == 0) {
                    queue.remove(i);
                    held.add(waiting);
                    return waiting;
                }
            }
            return null;
        }

        void free(Deal deal, int leastLevel, int leastAsked) {
            for (int i = held.size() - 1; i >= 0; i--) {
                Lock mine = held.get(i);
                if (mine.deal == deal && mine.level >= leastLevel && mine.asked >= leastAsked) {
                    held.remove(i);
                }
            }
        }

        void lowerLevel(Deal deal) {
            for (int i = 0; i < held.size(); i++) {
                Lock mine = held.get(i);
                if (mine.deal == deal && mine.level == deal.level) {
                    mine.level--;
                }
            }
        }

        int locksOf(Deal deal) {
            int many = 0;
            for (int i = 0; i < held.size(); i++) {
                many += held.get(i).deal == deal ? 1 : 0;
            }
            return many;
        }

        void keepVersion(int end, int digestThen) {
            if (versions >= MOST_VERSIONS) {
                System.arraycopy(versionEnds, 1, versionEnds, 0, MOST_VERSIONS - 1);
                System.arraycopy(versionDigests, 1, versionDigests, 0, MOST_VERSIONS - 1);
                versions = MOST_VERSIONS - 1;
            }
            versionEnds[versions] = end;
            versionDigests[versions] = digestThen;
            versions++;
        }

        int versionAt(int e) {
            for (int i = Math.min(versions, MOST_VERSIONS) - 1; i >= 0; i--) {
                if (versionEnds[i] <= e) {
                    return versionDigests[i];
                }
            }
            return OLD;
        }
    }

    /** The ACT that a TRANSACTION asks, and which of its needs comes next. */
    private static final class Ask {
        int place;
        int kind;
        int a;
        int b;
        int leg;
        int step;

        void set(int newPlace, int newKind, int newA, int newB) {
            place = newPlace;
            kind = newKind;
            a = newA;
            b = newB;
            leg = 0;
            step = 0;
        }

        void nextLeg() {
            leg++;
            step = 0;
        }

        /** The KIND for which the present part of the needs asks on an OBJECT. */
        int legKind(int at) {
            if (kind == MOVE) {
                return at == place ? DRAW : PAY;
            }
            return kind == BUMP && leg == 1 ? ADD : kind;
        }
    }

    /** A TRANSACTION. */
    private static final class Deal {
        final int number;
        final int rank;
        final int tries;
        int state = RUNNING;
        int why;
        int level;
        int acts;
        int asked;
        int answer;
        int finding;
        int end = NONE;
        int firstRow;
        int seat;
        Lock waiting;
        final Ask ask = new Ask();
        // How many ACTS it had when each LEVEL began.
        final int[] marks = new int[MOST_LEVEL + 1];

        Deal(int number, int rank, int tries) {
            this.number = number;
            this.rank = rank;
            this.tries = tries;
        }

        boolean isUnderWay() {
            return state == RUNNING || state == WAITING;
        }

        void markLevel() {
            if (level >= 0 && level < marks.length) {
                marks[level] = acts;
            }
        }

        int levelMark() {
            return level > 0 && level < marks.length ? marks[level] : 0;
        }

        /** What act() answers, as things are now. */
        int outcome() {
            if (state == UNDONE) {
                return 2;
            }
            if (state == WAITING) {
                return 0;
            }
            return finding == 0 ? 1 : -10 - finding;
        }

        boolean goesAheadOf(Deal other, int rule) {
            int mine = keyBy(rule);
            int others = other.keyBy(rule);
            return mine < others || (mine == others && number > other.number);
        }

        private int keyBy(int rule) {
            switch (rule) {
                case 1:
                    return acts;
                case 2:
                    return rank;
                case 3:
                    return tries;
                default:
                    return 0;
            }
        }
    }

    /** A row of THE LOG. */
    private static final class Row {
        final int which;
        final int deal;
        final int place;
        final int kind;
        final int a;
        final int b;
        final int answer;
        int undoes = -1;
        int saved;
        boolean undone;

        Row(int which, int deal, int place, int kind, int a, int b, int answer) {
            this.which = which;
            this.deal = deal;
            this.place = place;
            this.kind = kind;
            this.a = a;
            this.b = b;
            this.answer = answer;
        }

        Row contrary(int index) {
            Row row = new Row(ROW_UNDONE, deal, place, kind, a, b, answer);
            row.undoes = index;
            return row;
        }

        boolean isActOf(Deal one) {
            return which == ROW_ACT && deal == one.number && !undone;
        }

        /** The OBJECTS on which the ACT WRITES, a bit each. */
        long written() {
            if (kind == BUMP) {
                return 1L << b;
            }
            if (kind == MOVE) {
                return 1L << place | 1L << b;
            }
            return kind == HOLD || isReading(kind, a) ? 0 : 1L << place;
        }

        int tell(int what) {
            switch (what) {
                case 0:
                    return which;
                case 1:
                    return deal;
                case 2:
                    return place;
                case 3:
                    return kind;
                case 4:
                    return a;
                case 5:
                    return b;
                case 6:
                    return answer;
                default:
                    return undoes;
            }
        }
    }

    /** THE LOG. */
    private static final class Log {
        final ArrayList<Row> rows = new ArrayList<>();
        int forced;
        int endsSinceForced;
        int group = 1;

        int size() {
            return rows.size();
        }

        Row at(int i) {
            return i < 0 || i >= rows.size() ? null : rows.get(i);
        }

        void append(Row row) {
            rows.add(row);
        }

        void removeLast() {
            if (!rows.isEmpty()) {
                rows.remove(rows.size() - 1);
            }
        }

        void forceAll() {
            forced = rows.size();
            endsSinceForced = 0;
        }

        void forceByGroup() {
            endsSinceForced++;
            if (endsSinceForced >= group) {
                forceAll();
            }
        }
    }

    /** The latest RING, and the seats among which one is looked for. */
    private static final class Ring {
        final int[] waitsFor = new int[MOST_UNDER_WAY];
        final int[] numbers = new int[MOST_UNDER_WAY];
        final int[] from = new int[MOST_UNDER_WAY];
        final int[] line = new int[MOST_UNDER_WAY];
        final int[] members = new int[MOST_UNDER_WAY];
        int size;
        int victim = NONE;

        void forget() {
            size = 0;
            victim = NONE;
        }

        int member(int i) {
            if (i == -1) {
                return victim;
            }
            return i < 0 || i >= size || i >= members.length ? NONE : members[i];
        }

        void draw(int seat, int number, int seats) {
            if (seat >= 0 && seat < MOST_UNDER_WAY) {
                numbers[seat] = number;
                waitsFor[seat] = seats;
            }
        }

        /** Looks for the shortest RING from a seat on, the first by numbers: whether there is one. */
        boolean find(int start) {
            if (start < 0 || start >= MOST_UNDER_WAY) {
                return false;
            }
            int seen = 1 << start;
            int tail = 1;
            line[0] = start;
            from[start] = -1;
            // Seats are reached in the order of their rows, so the first that closes is the one.
            for (int head = 0; head < tail && head < MOST_UNDER_WAY; head++) {
                int at = line[head];
                if ((waitsFor[at] >> start & 1) == 1) {
                    writeDown(at);
                    return true;
                }
                for (int next = 0; next < MOST_UNDER_WAY && tail < MOST_UNDER_WAY; next++) {
                    if (((waitsFor[at] & ~seen) >> next & 1) == 1) {
                        seen |= 1 << next;
                        from[next] = at;
                        line[tail] = next;
                        tail++;
                    }
                }
            }
            return false;
        }

        private void writeDown(int last) {
            size = 0;
            int at = last;
            for (int i = 0; i < MOST_UNDER_WAY && at >= 0 && at < MOST_UNDER_WAY; i++) {
                size++;
                at = from[at];
            }
            at = last;
            for (int i = size - 1; i >= 0 && at >= 0 && at < MOST_UNDER_WAY; i--) {
                members[i] = numbers[at];
                at = from[at];
            }
        }
    }

    /** What is counted in all, CUTS or not. */
    private static final class Tally {
        int undone;
        int rings;
        int asked;
        int done;
        int findings;
        int locksAsked;
        int rests;
    }
}
