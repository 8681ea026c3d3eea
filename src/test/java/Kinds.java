/** The document's numbers by name, for the tests. */
final class Kinds {
    static final int FOLDER = 0, COUNTER = 1, REGISTER = 2, SET = 3, QUEUE = 4, MAP = 5, ACCOUNT = 6, SLOT = 7;
    static final int GET = 0, ADD = 1, BY = 2, PUT = 3, INSERT = 4, DELETE = 5, HAS = 6, SIZE = 7, ENTER = 8,
            LEAVE = 9, AT = 10, FIRST = 11, STORE = 12, DROP = 13, LOOK = 14, PAY = 15, DRAW = 16, POINT = 17,
            BUMP = 18, MOVE = 19, SUM = 20, HOLD = 21;
    static final int NULL = -11, KIND = -12, ZERO = -13, INDEX = -14, SIZE_WRONG = -15, SHORT = -16,
            FULL_THERE = -17, EMPTY = -18;
    static final int IS = 0, IX = 1, S = 2, X = 3, ACT = 4;
    static final int RUNNING = 1, WAITING = 2, ENDED = 3, UNDONE = 4;
    static final int BAD = -1, STATE = -2, FULL = -3, OLD = -6, NONE = -9;
    static final int[] WILD = {Integer.MIN_VALUE, Integer.MIN_VALUE + 1, -1000001, -41, -10, -9, -2, -1, 0, 1, 2, 7,
        8, 12, 18, 22, 31, 32, 40, 41, 64, 65, 400, 401, 1000, 1001, 1000000000, 1000000001,
        Integer.MAX_VALUE - 1, Integer.MAX_VALUE};

    private Kinds() {
    }
}
