/** What the tests share: telling wrong answers, and setting up boards and games. */
abstract class Trial {
    static final int BAD = JumpBoard.BAD;
    static final int NONE = JumpBoard.NONE;
    static final int MIN = Integer.MIN_VALUE;
    static final int MAX = Integer.MAX_VALUE;
    static final String FIRST = "111111000000333333";
    static final String EMPTY = "000000000000000000";

    /** A game of 100 moves that is not over then: its beginning, and the moves as letters. */
    static final String LONG_BOARD = "102100000000433030";
    static final String LONG_GAME = "bbcebbdecbeebbdebbbebaaacebebbaadbfacbdacadacbebdb"
            + "dacbaaeacaababbadadbdaeddbeacacbdbabedbbbbcadbaaba";

    private static final int MOST_TOLD = 60;

    private static String topic = "";
    private static int wrong = 0;

    /** What the answers to come are about: a promise, or a sentence of the document. */
    static void about(String words) {
        topic = words;
    }

    static void due(String call, long got, long want) {
        if (got != want) {
            tell(call, Long.toString(got), Long.toString(want));
        }
    }

    static void due(String call, boolean got, boolean want) {
        if (got != want) {
            tell(call, Boolean.toString(got), Boolean.toString(want));
        }
    }

    static void due(String call, String got, String want) {
        if (!got.equals(want)) {
            tell(call, got, want);
        }
    }

    private static void tell(String call, String got, String want) {
        wrong++;
        if (wrong <= MOST_TOLD) {
            System.out.println(topic + ": " + call + " answered " + got + ", due is " + want);
        }
    }

    static void end() {
        System.out.println(wrong == 0 ? "all answers are as due" : wrong + " answers are not as due");
        if (wrong != 0) {
            System.exit(1);
        }
    }

    static String board(LimitedBoard x) {
        StringBuilder text = new StringBuilder();
        for (int s = 0; s < 18; s++) {
            text.append(x.at(s));
        }
        return text.toString();
    }

    static void dueBoard(String when, LimitedBoard x, String want) {
        due("the board " + when, board(x), want);
    }

    /** All moves as "begin-end" or "begin-end/taken", in their order. */
    static String moves(LimitedBoard x) {
        StringBuilder text = new StringBuilder();
        int count = x.moves();
        for (int i = 0; i < count; i++) {
            int taken = x.move(i, 2);
            text.append(i == 0 ? "" : " ").append(x.move(i, 0)).append('-').append(x.move(i, 1));
            text.append(taken == 0 ? "" : "/" + taken);
        }
        return text.toString();
    }

    static void dueMoves(String when, LimitedBoard x, String want) {
        due("the moves " + when, moves(x), want);
    }

    static int sum(int... squares) {
        int sum = 0;
        for (int square : squares) {
            sum += 1 << square;
        }
        return sum;
    }

    static LimitedBoard with(String board, int side) {
        LimitedBoard x = new LimitedBoard();
        x.clear();
        for (int s = 0; s < 18; s++) {
            if (board.charAt(s) != '0') {
                due("put(" + s + ", " + board.charAt(s) + ")", x.put(s, board.charAt(s) - '0'), true);
            }
        }
        if (side != 0) {
            due("turn(" + side + ")", x.turn(side), true);
        }
        return x;
    }

    /** A board with single pieces on it, told as square, piece, square, piece, .. */
    static LimitedBoard withPieces(int side, int... places) {
        char[] board = EMPTY.toCharArray();
        for (int i = 0; i < places.length; i += 2) {
            board[places[i]] = (char) ('0' + places[i + 1]);
        }
        return with(new String(board), side);
    }

    static void go(LimitedBoard x, int begin, int end) {
        int count = x.moves();
        for (int i = 0; i < count; i++) {
            if (x.move(i, 0) == begin && x.move(i, 1) == end) {
                due("play(" + i + ")", x.play(i) >= 0, true);
                return;
            }
        }
        due("a move from " + begin + " to " + end + " among " + moves(x), false, true);
    }

    /** Kings walk to and fro far apart, until so many moves were played. */
    static LimitedBoard afterKingSteps(int count) {
        LimitedBoard x = withPieces(0, 0, 2, 5, 1, 9, 3, 17, 4);
        for (int i = 0; i < count; i++) {
            int[] white = {0, 3};
            int[] black = {17, 14};
            int[] walk = i % 2 == 0 ? white : black;
            boolean forth = i / 2 % 2 == 0;
            go(x, forth ? walk[0] : walk[1], forth ? walk[1] : walk[0]);
        }
        return x;
    }

    /** The twentieth step of a king takes black's last move away. */
    static LimitedBoard blockedAtQuiet20() {
        LimitedBoard x = withPieces(1, 1, 2, 6, 2, 10, 2, 4, 2, 0, 4);
        for (int i = 0; i < 8; i++) {
            boolean forth = i % 2 == 0;
            go(x, forth ? 0 : 3, forth ? 3 : 0);
            go(x, forth ? 4 : 8, forth ? 8 : 4);
        }
        go(x, 0, 3);
        go(x, 4, 7);
        go(x, 3, 0);
        go(x, 6, 3);
        return x;
    }

    /** A won ending in which 20 steps of kings were played. */
    static LimitedBoard quietEnding() {
        LimitedBoard x = withPieces(0, 0, 2, 17, 4);
        for (int i = 0; i < 10; i++) {
            boolean forth = i % 2 == 0;
            go(x, forth ? 0 : 3, forth ? 3 : 0);
            go(x, forth ? 17 : 14, forth ? 14 : 17);
        }
        return x;
    }

    /** The long game, or its first moves. */
    static LimitedBoard longGame(int count) {
        LimitedBoard x = with(LONG_BOARD, 0);
        for (int i = 0; i < count; i++) {
            boolean accepted = x.play(LONG_GAME.charAt(i) - 'a') >= 0;
            due("the long game's move " + i, accepted, true);
        }
        return x;
    }
}
