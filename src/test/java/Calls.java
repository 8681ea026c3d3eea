/** The calls of the face by number, on a HoldHouse and on the Model; a call is its number and what it is given. */
final class Calls {
    static final int MAKE = 0, OBJECT = 1, BEGIN = 2, NEST = 3, JOIN = 4, BACK = 5, SAVE = 6, BACK_TO = 7, END = 8,
            UNDO = 9, RETRY = 10, ACT = 11, OF = 12, LOCK = 13, WAITS = 14, RING = 15, RULE = 16, LIMIT = 17,
            GROUP = 18, REST = 19, CUT = 20, CRASH = 21, ROW = 22, ENDED = 23, VERSION = 24, COMMUTE = 25, TRIED = 26,
            SERIAL = 27, TRACE = 28, COUNT = 29, DIGEST = 30, MANY = 31;
    static final String[] HEADS = {"make 3", "object 2", "begin 1", "nest 1", "join 1", "back 1", "save 1",
        "backTo 2", "end 1", "undo 1", "retry 1", "act 5", "of 2", "lock 3", "waits 3", "ring 1", "rule 1", "limit 1",
        "group 1", "rest 0", "cut 1", "crash 0", "row 2", "ended 1", "version 2", "commute 5", "tried 5", "serial 0",
        "trace 1", "count 1", "digest 0"};

    private Calls() {
    }

    static String name(int... call) {
        String head = HEADS[call[0]];
        int space = head.indexOf(' ');
        StringBuilder text = new StringBuilder(head.substring(0, space)).append('(');
        for (int i = 1; i <= head.charAt(space + 1) - '0'; i++) {
            text.append(i == 1 ? "" : ", ").append(call[i]);
        }
        return text.append(')').toString();
    }

    /** Whether a call only asks. */
    static boolean isQuestion(int which) {
        return which == OBJECT || which == SAVE || (which >= OF && which <= RING) || which >= ROW;
    }

    static int on(HoldHouse x, int... n) {
        switch (n[0]) {
            case MAKE:
                return x.make(n[1], n[2], n[3]);
            case OBJECT:
                return x.object(n[1], n[2]);
            case BEGIN:
                return x.begin(n[1]);
            case NEST:
                return x.nest(n[1]);
            case JOIN:
                return x.join(n[1]);
            case BACK:
                return x.back(n[1]);
            case SAVE:
                return x.save(n[1]);
            case BACK_TO:
                return x.backTo(n[1], n[2]);
            case END:
                return x.end(n[1]);
            case UNDO:
                return x.undo(n[1]);
            case RETRY:
                return x.retry(n[1]);
            case ACT:
                return x.act(n[1], n[2], n[3], n[4], n[5]);
            case OF:
                return x.of(n[1], n[2]);
            case LOCK:
                return x.lock(n[1], n[2], n[3]);
            case WAITS:
                return x.waits(n[1], n[2], n[3]);
            default:
                return more(x, n);
        }
    }

    private static int more(HoldHouse x, int... n) {
        switch (n[0]) {
            case RING:
                return x.ring(n[1]);
            case RULE:
                return x.rule(n[1]);
            case LIMIT:
                return x.limit(n[1]);
            case GROUP:
                return x.group(n[1]);
            case REST:
                return x.rest();
            case CUT:
                return x.cut(n[1]);
            case CRASH:
                return x.crash();
            case ROW:
                return x.row(n[1], n[2]);
            case ENDED:
                return x.ended(n[1]);
            case VERSION:
                return x.version(n[1], n[2]);
            case COMMUTE:
                return x.commute(n[1], n[2], n[3], n[4], n[5]);
            case TRIED:
                return x.tried(n[1], n[2], n[3], n[4], n[5]);
            case SERIAL:
                return x.serial();
            case TRACE:
                return x.trace(n[1]);
            case COUNT:
                return x.count(n[1]);
            default:
                return x.digest();
        }
    }

    static int on(Model m, int... n) {
        switch (n[0]) {
            case MAKE:
                return m.make(n[1], n[2], n[3]);
            case OBJECT:
                return m.object(n[1], n[2]);
            case BEGIN:
                return m.begin(n[1]);
            case NEST:
                return m.nest(n[1]);
            case JOIN:
                return m.join(n[1]);
            case BACK:
                return m.back(n[1]);
            case SAVE:
                return m.save(n[1]);
            case BACK_TO:
                return m.backTo(n[1], n[2]);
            case END:
                return m.end(n[1]);
            case UNDO:
                return m.undo(n[1]);
            case RETRY:
                return m.retry(n[1]);
            case ACT:
                return m.act(n[1], n[2], n[3], n[4], n[5]);
            case OF:
                return m.of(n[1], n[2]);
            case LOCK:
                return m.lock(n[1], n[2], n[3]);
            case WAITS:
                return m.waits(n[1], n[2], n[3]);
            default:
                return more(m, n);
        }
    }

    private static int more(Model m, int... n) {
        switch (n[0]) {
            case RING:
                return m.ring(n[1]);
            case RULE:
                return m.rule(n[1]);
            case LIMIT:
                return m.limit(n[1]);
            case GROUP:
                return m.group(n[1]);
            case REST:
                return m.rest();
            case CUT:
                return m.cut(n[1]);
            case CRASH:
                return m.crash();
            case ROW:
                return m.row(n[1], n[2]);
            case ENDED:
                return m.ended(n[1]);
            case VERSION:
                return m.version(n[1], n[2]);
            case COMMUTE:
                return m.commute(n[1], n[2], n[3], n[4], n[5]);
            case TRIED:
                return m.tried(n[1], n[2], n[3], n[4], n[5]);
            case SERIAL:
                return m.serial();
            case TRACE:
                return m.trace(n[1]);
            case COUNT:
                return m.count(n[1]);
            default:
                return m.digest();
        }
    }
}
