/**
 * A JumpBoard that counts its calls: the document promises nothing after the 512th, so a test that
 * asks more of one object is itself at fault.
 */
final class LimitedBoard {
    static final int MOST_CALLS = 512;

    private final JumpBoard board = new JumpBoard();
    private int calls = 0;

    private JumpBoard next() {
        calls++;
        if (calls > MOST_CALLS) {
            throw new IllegalStateException("a test makes more than 512 calls of one object");
        }
        return board;
    }

    int calls() {
        return calls;
    }

    void begin() {
        next().begin();
    }

    void clear() {
        next().clear();
    }

    boolean put(int square, int piece) {
        return next().put(square, piece);
    }

    boolean turn(int side) {
        return next().turn(side);
    }

    int at(int square) {
        return next().at(square);
    }

    int side() {
        return next().side();
    }

    int moves() {
        return next().moves();
    }

    int move(int i, int what) {
        return next().move(i, what);
    }

    int play(int i) {
        return next().play(i);
    }

    boolean undo() {
        return next().undo();
    }

    int played() {
        return next().played();
    }

    int over() {
        return next().over();
    }

    int quiet() {
        return next().quiet();
    }

    int ways(int depth) {
        return next().ways(depth);
    }

    int verdict() {
        return next().verdict();
    }

    int value(int depth) {
        return next().value(depth);
    }

    int best(int depth) {
        return next().best(depth);
    }
}
