/**
 * Draughts on the eighteen dark squares of a board of six by six.
 *
 * <p>Sets of squares are ints with bit s for square s, as the document numbers taken pieces.
 */
public final class JumpBoard {
    public static final int BAD = -1;
    public static final int NONE = -2000;

    private static final int SQUARES = 18;
    private static final int ROW_LENGTH = 3;
    private static final int SIZE = 6;
    private static final int DIRECTIONS = 4;
    private static final int NOWHERE = -1;

    private static final int WHITE = 0;
    private static final int BLACK = 1;

    private static final int EMPTY = 0;
    private static final int WHITE_MAN = 1;
    private static final int WHITE_KING = 2;
    private static final int BLACK_MAN = 3;
    private static final int BLACK_KING = 4;

    private static final int LOWEST_ROW = 7;
    private static final int HIGHEST_ROW = 7 << 15;
    private static final int FIRST_WHITE = 63;
    private static final int FIRST_BLACK = 63 << 12;

    private static final int MOST_PLAYED = 100;
    private static final int DRAWN_AT = 20;
    private static final int DEEPEST = 4;

    private static final int LOSS = 1000;
    /** Beyond every value, so that a search within it is a search without bounds. */
    private static final int WIDE = 2000;
    private static final int LOST_IN_0 = -100;

    private final Rules rules = new Rules();
    /** Made when first asked for: most games never come to an ending. */
    private Endings endings = null;

    /** The game so far: undo needs no more than going one place back. */
    private final Position[] line = new Position[MOST_PLAYED + 1];
    private int latest = 0;

    /** The moves of the present position, and the position behind one of them. */
    private final MoveList list = new MoveList();
    private final Position after = new Position();

    /** One list and one position for each depth that is left, used again in every search. */
    private final MoveList[] lists = new MoveList[DEEPEST + 1];
    private final Position[] spots = new Position[DEEPEST + 1];

    public JumpBoard() {
        for (int i = 0; i <= MOST_PLAYED; i++) {
            line[i] = new Position();
        }
        for (int depth = 0; depth <= DEEPEST; depth++) {
            lists[depth] = new MoveList();
            spots[depth] = new Position();
        }
        line[0].setUp();
    }

    public void begin() {
        latest = 0;
        line[0].setUp();
    }

    public void clear() {
        latest = 0;
        line[0].wipe();
    }

    public boolean put(int square, int piece) {
        if (!isSquare(square) || piece < EMPTY || piece > BLACK_KING) {
            return false;
        }
        int bit = 1 << square;
        if (piece == WHITE_MAN && (bit & HIGHEST_ROW) != 0) {
            return false;
        }
        if (piece == BLACK_MAN && (bit & LOWEST_ROW) != 0) {
            return false;
        }
        forgetGame();
        line[0].place(bit, piece);
        return true;
    }

    public boolean turn(int side) {
        if (side != WHITE && side != BLACK) {
            return false;
        }
        forgetGame();
        line[0].mover = side;
        return true;
    }

    public int at(int square) {
        return isSquare(square) ? line[latest].pieceOn(1 << square) : BAD;
    }

    public int side() {
        return line[latest].mover;
    }

    public int moves() {
        rules.listMoves(line[latest], list);
        return list.count;
    }

    public int move(int i, int what) {
        if (i < 0 || i >= moves()) {
            return BAD;
        }
        int packed = list.packed[i];
        switch (what) {
            case 0:
                return MoveList.beginning(packed);
            case 1:
                return MoveList.end(packed);
            case 2:
                return MoveList.taken(packed);
            default:
                return BAD;
        }
    }

    public int play(int i) {
        if (over() != 0 || i < 0 || i >= moves() || latest >= MOST_PLAYED) {
            return BAD;
        }
        int packed = list.packed[i];
        line[latest + 1].follow(line[latest], packed);
        latest++;
        return Integer.bitCount(MoveList.taken(packed));
    }

    public boolean undo() {
        if (latest == 0) {
            return false;
        }
        latest--;
        return true;
    }

    public int played() {
        return latest;
    }

    public int over() {
        Position now = line[latest];
        if (!rules.canMove(now)) {
            return now.mover == WHITE ? 2 : 1;
        }
        return now.kingSteps >= DRAWN_AT ? 3 : 0;
    }

    public int quiet() {
        return line[latest].kingSteps;
    }

    public int ways(int depth) {
        return isDepth(depth) ? countWays(line[latest], depth) : BAD;
    }

    public int verdict() {
        Position now = line[latest];
        return now.isOneEach() ? judge(now) : NONE;
    }

    public int value(int depth) {
        return isDepth(depth) ? weigh(line[latest], depth, -WIDE, WIDE) : NONE;
    }

    public int best(int depth) {
        if (depth < 1 || !isDepth(depth)) {
            return BAD;
        }
        int count = moves();
        int chosen = BAD;
        int least = WIDE;
        for (int i = 0; i < count; i++) {
            after.follow(line[latest], list.packed[i]);
            // A value that is not below the least one need not be exact: it is not chosen.
            int found = weigh(after, depth - 1, -WIDE, least);
            if (found < least) {
                least = found;
                chosen = i;
            }
        }
        return chosen;
    }

    private void forgetGame() {
        line[0].copy(line[latest]);
        line[0].kingSteps = 0;
        latest = 0;
    }

    private int countWays(Position position, int depth) {
        if (depth <= 0) {
            return 1;
        }
        MoveList choices = lists[depth];
        rules.listMoves(position, choices);
        if (depth == 1) {
            return choices.count;
        }
        Position next = spots[depth - 1];
        int sum = 0;
        for (int i = 0; i < choices.count; i++) {
            next.follow(position, choices.packed[i]);
            sum += countWays(next, depth - 1);
        }
        return sum;
    }

    /**
     * The value at a depth if it lies between low and high; otherwise some number on the same side
     * of them, so that moves which can't matter are left out.
     */
    private int weigh(Position position, int depth, int low, int high) {
        if (position.isOneEach()) {
            return weighVerdict(judge(position));
        }
        if (depth <= 0) {
            return rules.canMove(position) ? position.balance() : -LOSS;
        }
        MoveList choices = lists[depth];
        rules.listMoves(position, choices);
        if (choices.count == 0) {
            return -LOSS;
        }
        Position next = spots[depth - 1];
        int greatest = low;
        for (int i = 0; i < choices.count && greatest < high; i++) {
            next.follow(position, choices.packed[i]);
            greatest = Math.max(greatest, -weigh(next, depth - 1, -high, -greatest));
        }
        return greatest;
    }

    private static int weighVerdict(int verdict) {
        if (verdict == LOST_IN_0) {
            return -LOSS;
        }
        if (verdict > 0) {
            return LOSS - verdict;
        }
        return verdict < 0 ? -verdict - LOSS : 0;
    }

    private int judge(Position position) {
        if (endings == null) {
            endings = new Endings(rules);
        }
        return endings.look(position);
    }

    private static boolean isSquare(int square) {
        return square >= 0 && square < SQUARES;
    }

    private static boolean isDepth(int depth) {
        return depth >= 0 && depth <= DEEPEST;
    }

    /** What stands where, who is to move, and how many steps of kings came right before. */
    private static final class Position {
        int white;
        int black;
        int kings;
        int mover;
        int kingSteps;

        void wipe() {
            white = 0;
            black = 0;
            kings = 0;
            mover = WHITE;
            kingSteps = 0;
        }

        void setUp() {
            wipe();
            white = FIRST_WHITE;
            black = FIRST_BLACK;
        }

        void copy(Position other) {
            white = other.white;
            black = other.black;
            kings = other.kings;
            mover = other.mover;
            kingSteps = other.kingSteps;
        }

        int own() {
            return mover == WHITE ? white : black;
        }

        int others() {
            return mover == WHITE ? black : white;
        }

        boolean isKing(int square) {
            return (kings >> square & 1) != 0;
        }

        boolean isOneEach() {
            return Integer.bitCount(white) == 1 && Integer.bitCount(black) == 1;
        }

        int pieceOn(int bit) {
            boolean king = (kings & bit) != 0;
            if ((white & bit) != 0) {
                return king ? WHITE_KING : WHITE_MAN;
            }
            if ((black & bit) != 0) {
                return king ? BLACK_KING : BLACK_MAN;
            }
            return EMPTY;
        }

        void place(int bit, int piece) {
            white &= ~bit;
            black &= ~bit;
            kings &= ~bit;
            if (piece == WHITE_MAN || piece == WHITE_KING) {
                white |= bit;
            }
            if (piece == BLACK_MAN || piece == BLACK_KING) {
                black |= bit;
            }
            if (piece == WHITE_KING || piece == BLACK_KING) {
                kings |= bit;
            }
        }

        /** Becomes the position to which a move leads. */
        void follow(Position before, int packed) {
            int start = 1 << MoveList.beginning(packed);
            int goal = 1 << MoveList.end(packed);
            int taken = MoveList.taken(packed);
            boolean whiteMoves = before.mover == WHITE;
            boolean wasKing = (before.kings & start) != 0;
            int crowning = whiteMoves ? HIGHEST_ROW : LOWEST_ROW;

            // A jump may end where it began, so the start is left before the goal is entered.
            white = whiteMoves ? before.white & ~start | goal : before.white & ~taken;
            black = whiteMoves ? before.black & ~taken : before.black & ~start | goal;
            kings = before.kings & ~start & ~taken;
            if (wasKing || (goal & crowning) != 0) {
                kings |= goal;
            }
            mover = whiteMoves ? BLACK : WHITE;
            kingSteps = wasKing && taken == 0 ? before.kingSteps + 1 : 0;
        }

        /** What the side to move has more than the other one: 2 for a man, 3 for a king. */
        int balance() {
            int mine = 2 * Integer.bitCount(own()) + Integer.bitCount(own() & kings);
            int theirs = 2 * Integer.bitCount(others()) + Integer.bitCount(others() & kings);
            return mine - theirs;
        }
    }

    /**
     * The moves of a position, each packed into one int whose order is the document's order:
     * the beginning above the end above the taken pieces.
     */
    private static final class MoveList {
        private static final int END_SHIFT = 18;
        private static final int BEGINNING_SHIFT = 23;
        private static final int TAKEN_MASK = (1 << 18) - 1;
        private static final int SQUARE_MASK = 31;
        /** A piece has at most four moves: leaps go round a ring of four squares or across a cross. */
        private static final int ROOM = SQUARES * 4;

        final int[] packed = new int[ROOM];
        int count;

        static int beginning(int packed) {
            return packed >> BEGINNING_SHIFT & SQUARE_MASK;
        }

        static int end(int packed) {
            return packed >> END_SHIFT & SQUARE_MASK;
        }

        static int taken(int packed) {
            return packed & TAKEN_MASK;
        }

        void enter(int start, int goal, int taken) {
            int fresh = start << BEGINNING_SHIFT | goal << END_SHIFT | taken;
            int place = count;
            while (place > 0 && packed[place - 1] > fresh) {
                place--;
            }
            boolean known = place > 0 && packed[place - 1] == fresh;
            if (known || count >= ROOM) {
                return;
            }
            for (int i = count; i > place; i--) {
                packed[i] = packed[i - 1];
            }
            packed[place] = fresh;
            count++;
        }
    }

    /** Where pieces may go. Directions 0 and 1 lead down, 2 and 3 up. */
    private static final class Rules {
        private final int[] near = new int[SQUARES * DIRECTIONS];
        private final int[] behind = new int[SQUARES * DIRECTIONS];

        Rules() {
            for (int square = 0; square < SQUARES; square++) {
                for (int direction = 0; direction < DIRECTIONS; direction++) {
                    near[square * DIRECTIONS + direction] = reach(square, direction, 1);
                    behind[square * DIRECTIONS + direction] = reach(square, direction, 2);
                }
            }
        }

        private static int reach(int square, int direction, int far) {
            int row = square / ROW_LENGTH;
            int column = 2 * (square % ROW_LENGTH) + row % 2;
            row += direction < 2 ? -far : far;
            column += direction % 2 == 0 ? -far : far;
            if (row < 0 || row >= SIZE || column < 0 || column >= SIZE) {
                return NOWHERE;
            }
            return row * ROW_LENGTH + column / 2;
        }

        private static int firstDirection(Position position, int square) {
            return position.isKing(square) || position.mover == BLACK ? 0 : 2;
        }

        private static int lastDirection(Position position, int square) {
            return position.isKing(square) || position.mover == WHITE ? 3 : 1;
        }

        void listMoves(Position position, MoveList list) {
            list.count = 0;
            int own = position.own();
            for (int square = 0; square < SQUARES; square++) {
                if ((own >> square & 1) != 0) {
                    leapOn(position, list, square, square, 0, 0);
                }
            }
            if (list.count > 0) {
                return;
            }
            for (int square = 0; square < SQUARES; square++) {
                if ((own >> square & 1) != 0) {
                    listSteps(position, list, square);
                }
            }
        }

        private void listSteps(Position position, MoveList list, int square) {
            int full = position.white | position.black;
            int last = lastDirection(position, square);
            for (int way = firstDirection(position, square); way <= last; way++) {
                int goal = near[square * DIRECTIONS + way];
                if (goal != NOWHERE && (full >> goal & 1) == 0) {
                    list.enter(square, goal, 0);
                }
            }
        }

        /**
         * Lists the jumps from start that have come to a square so far. A man on his crowning row
         * needs no test: in his direction the board ends there.
         */
        private void leapOn(Position position, MoveList list, int start, int square, int taken, int leaps) {
            int prey = position.others() & ~taken;
            int full = (position.white | position.black) & ~(1 << start);
            int last = lastDirection(position, start);
            boolean ended = true;
            for (int way = firstDirection(position, start); way <= last && leaps < SQUARES; way++) {
                int over = near[square * DIRECTIONS + way];
                int goal = behind[square * DIRECTIONS + way];
                if (goal != NOWHERE && (prey >> over & 1) != 0 && (full >> goal & 1) == 0) {
                    ended = false;
                    leapOn(position, list, start, goal, taken | 1 << over, leaps + 1);
                }
            }
            if (ended && taken != 0) {
                list.enter(start, square, taken);
            }
        }

        /** The same as a list that is not empty, but without making it: searches ask this most. */
        boolean canMove(Position position) {
            int own = position.own();
            for (int square = 0; square < SQUARES; square++) {
                if ((own >> square & 1) != 0 && canLeave(position, square)) {
                    return true;
                }
            }
            return false;
        }

        private boolean canLeave(Position position, int square) {
            int prey = position.others();
            int full = position.white | position.black;
            int last = lastDirection(position, square);
            for (int way = firstDirection(position, square); way <= last; way++) {
                int goal = near[square * DIRECTIONS + way];
                if (goal != NOWHERE && (prey >> goal & 1) != 0) {
                    goal = behind[square * DIRECTIONS + way];
                }
                if (goal != NOWHERE && (full >> goal & 1) == 0) {
                    return true;
                }
            }
            return false;
        }
    }

    /**
     * The verdicts on all endings of one piece against one, as seen by the side to move: black's
     * endings are white's with the board turned round, so that one table serves both sides.
     */
    private static final class Endings {
        private static final int KINDS = 2 * SQUARES;
        private static final int COUNT = KINDS * KINDS;
        /** Stands for all positions in which the side to move has nothing left. */
        private static final int ALL_TAKEN = COUNT;
        private static final int MOST_MOVES = 4;

        private final byte[] verdicts = new byte[COUNT + 1];
        private final byte[] counts = new byte[COUNT];
        private final short[] nexts = new short[COUNT * MOST_MOVES];

        Endings(Rules rules) {
            MoveList list = new MoveList();
            Position position = new Position();
            Position next = new Position();
            verdicts[ALL_TAKEN] = LOST_IN_0;
            for (int ending = 0; ending < COUNT; ending++) {
                if (arrange(position, ending)) {
                    rules.listMoves(position, list);
                    note(ending, position, list, next);
                }
            }
            settle();
        }

        int look(Position position) {
            return verdicts[number(position)];
        }

        /** Whether there is such an ending; if so, the position becomes it, with white to move. */
        private static boolean arrange(Position position, int ending) {
            int mine = ending / KINDS;
            int theirs = ending % KINDS;
            int mySquare = 1 << mine % SQUARES;
            int theirSquare = 1 << theirs % SQUARES;
            boolean myKing = mine >= SQUARES;
            boolean theirKing = theirs >= SQUARES;
            boolean manTooHigh = !myKing && (mySquare & HIGHEST_ROW) != 0;
            boolean manTooLow = !theirKing && (theirSquare & LOWEST_ROW) != 0;
            if (mySquare == theirSquare || manTooHigh || manTooLow) {
                return false;
            }
            position.wipe();
            position.place(mySquare, myKing ? WHITE_KING : WHITE_MAN);
            position.place(theirSquare, theirKing ? BLACK_KING : BLACK_MAN);
            return true;
        }

        private static int number(Position position) {
            if (position.own() == 0) {
                return ALL_TAKEN;
            }
            return kind(position, position.own()) * KINDS + kind(position, position.others());
        }

        private static int kind(Position position, int bit) {
            int square = Integer.numberOfTrailingZeros(bit) % SQUARES;
            int seen = position.mover == WHITE ? square : SQUARES - 1 - square;
            return position.isKing(square) ? SQUARES + seen : seen;
        }

        private void note(int ending, Position position, MoveList list, Position next) {
            int count = Math.min(list.count, MOST_MOVES);
            for (int i = 0; i < count; i++) {
                next.follow(position, list.packed[i]);
                nexts[ending * MOST_MOVES + i] = (short) number(next);
            }
            counts[ending] = (byte) count;
            if (count == 0) {
                verdicts[ending] = LOST_IN_0;
            }
        }

        /**
         * Finds wins in 1, losses in 2, wins in 3 and so on: a win is one move before a loss and a
         * loss one before a win, so wins have odd numbers alone and losses even ones. A round that
         * finds nothing leaves the next one nothing to build on.
         */
        private void settle() {
            boolean found = true;
            for (int n = 1; n < COUNT && found; n++) {
                found = n % 2 == 1 ? findWins(n) : findLosses(n);
            }
        }

        private boolean findWins(int n) {
            boolean found = false;
            for (int ending = 0; ending < COUNT; ending++) {
                if (verdicts[ending] == 0 && leadsToLoss(ending)) {
                    verdicts[ending] = (byte) n;
                    found = true;
                }
            }
            return found;
        }

        private boolean findLosses(int n) {
            boolean found = false;
            for (int ending = 0; ending < COUNT; ending++) {
                if (verdicts[ending] == 0 && counts[ending] > 0 && leadsToWinsAlone(ending)) {
                    verdicts[ending] = (byte) -n;
                    found = true;
                }
            }
            return found;
        }

        private boolean leadsToLoss(int ending) {
            for (int i = 0; i < counts[ending]; i++) {
                if (verdicts[nexts[ending * MOST_MOVES + i]] < 0) {
                    return true;
                }
            }
            return false;
        }

        private boolean leadsToWinsAlone(int ending) {
            for (int i = 0; i < counts[ending]; i++) {
                if (verdicts[nexts[ending * MOST_MOVES + i]] <= 0) {
                    return false;
                }
            }
            return true;
        }
    }
}
