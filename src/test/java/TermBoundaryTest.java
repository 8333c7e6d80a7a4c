/**
 * The boundary cases that the document names in "What it is" and "Terms", a test for each
 * sentence: about() quotes it, so that a failure tells which sentence is broken.
 */
public final class TermBoundaryTest extends Trial {
    /** The neighbours of each square, written out from the document's rows and columns. */
    private static final int[][] NEAR = {
        {3}, {3, 4}, {4, 5},
        {0, 1, 6, 7}, {1, 2, 7, 8}, {2, 8},
        {3, 9}, {3, 4, 9, 10}, {4, 5, 10, 11},
        {6, 7, 12, 13}, {7, 8, 13, 14}, {8, 14},
        {9, 15}, {9, 10, 15, 16}, {10, 11, 16, 17},
        {12, 13}, {13, 14}, {14}};

    /** All leaps upwards as from, over, to; the leaps downwards are the same ones backwards. */
    private static final int[][] LEAPS = {
        {0, 3, 7}, {1, 3, 6}, {1, 4, 8}, {2, 4, 7},
        {3, 7, 10}, {4, 7, 9}, {4, 8, 11}, {5, 8, 10},
        {6, 9, 13}, {7, 9, 12}, {7, 10, 14}, {8, 10, 13},
        {9, 13, 16}, {10, 13, 15}, {10, 14, 17}, {11, 14, 16}};

    private static final int WHITE_MAN = 1;
    private static final int WHITE_KING = 2;
    private static final int BLACK_MAN = 3;
    private static final int BLACK_KING = 4;
    private static final int[] PIECES = {WHITE_MAN, WHITE_KING, BLACK_MAN, BLACK_KING};

    private static int sideOf(int piece) {
        return piece <= WHITE_KING ? 0 : 1;
    }

    private static boolean isAllowed(int square, int piece) {
        return !(piece == WHITE_MAN && square >= 15) && !(piece == BLACK_MAN && square <= 2);
    }

    private static boolean heads(int piece, int from, int to) {
        boolean up = to / 3 > from / 3;
        return piece == WHITE_KING || piece == BLACK_KING || up == (piece == WHITE_MAN);
    }

    /** Where a piece comes to when it leaps over a neighbour, -1 if the board ends before that. */
    private static int behind(int from, int over) {
        for (int[] leap : LEAPS) {
            if (leap[0] == from && leap[1] == over) {
                return leap[2];
            }
            if (leap[2] == from && leap[1] == over) {
                return leap[0];
            }
        }
        return -1;
    }

    private static void callsUpTo512() {
        about("An object is used for at most 512 calls after it has been made");
        LimitedBoard x = new LimitedBoard();
        while (x.calls() < LimitedBoard.MOST_CALLS - 4) {
            x.play(0);
            x.value(4);
            x.best(4);
            x.undo();
        }
        x.begin();
        due("ways(4) as call 510", x.ways(4), 369);
        due("best(4) as call 511", x.best(4), 0);
        due("play(4) as call 512", x.play(4), 0);
        due("calls", x.calls(), 512);
    }

    private static void squaresFrom0To17() {
        about("SQUARES 0 .. 17 are the dark ones");
        for (int s = 0; s < 18; s++) {
            LimitedBoard x = withPieces(0, s, WHITE_KING);
            for (int other = 0; other < 18; other++) {
                due("at(" + other + ") with a king on " + s, x.at(other), other == s ? 2 : 0);
            }
        }
        LimitedBoard x = new LimitedBoard();
        due("at(-1)", x.at(-1), BAD);
        due("at(18)", x.at(18), BAD);
        due("put(-1, 2)", x.put(-1, 2), false);
        due("put(18, 2)", x.put(18, 2), false);
    }

    private static String steps(int piece, int from) {
        StringBuilder text = new StringBuilder();
        for (int to : NEAR[from]) {
            if (heads(piece, from, to)) {
                text.append(text.length() == 0 ? "" : " ").append(from).append('-').append(to);
            }
        }
        return text.toString();
    }

    private static void neighboursUpToTheEdge() {
        about("Two squares are NEIGHBOURS if both row and column differ by 1");
        for (int s = 0; s < 18; s++) {
            dueMoves("of a white king on " + s, withPieces(0, s, WHITE_KING), steps(WHITE_KING, s));
            dueMoves("of a black king on " + s, withPieces(1, s, BLACK_KING), steps(BLACK_KING, s));
        }
    }

    private static void menGoOneWay() {
        about("White men go up (to greater rows), black men down, kings both ways");
        for (int s = 0; s < 15; s++) {
            dueMoves("of a white man on " + s, withPieces(0, s, WHITE_MAN), steps(WHITE_MAN, s));
        }
        for (int s = 3; s < 18; s++) {
            dueMoves("of a black man on " + s, withPieces(1, s, BLACK_MAN), steps(BLACK_MAN, s));
        }
    }

    /** Each piece beside, or far from, each piece of the other side: a leap where there is room. */
    private static void behindUpToTheEdge() {
        about("a square lies BEHIND another one as seen from a third if it is as far on in the same"
                + " diagonal direction");
        for (int from = 0; from < 18; from++) {
            for (int over = 0; over < 18; over++) {
                for (int piece : PIECES) {
                    for (int prey : PIECES) {
                        boolean allowed = isAllowed(from, piece) && isAllowed(over, prey);
                        if (from != over && allowed && sideOf(piece) != sideOf(prey)) {
                            leapOrStep(from, piece, over, prey);
                        }
                    }
                }
            }
        }
    }

    private static void leapOrStep(int from, int piece, int over, int prey) {
        LimitedBoard x = withPieces(sideOf(piece), from, piece, over, prey);
        int goal = behind(from, over);
        String want = "";
        for (int to : NEAR[from]) {
            boolean free = to != over && heads(piece, from, to);
            want += free ? (want.isEmpty() ? "" : " ") + from + "-" + to : "";
        }
        if (goal >= 0 && heads(piece, from, over)) {
            want = from + "-" + goal + "/" + sum(over);
        }
        dueMoves("of " + piece + " on " + from + " with " + prey + " on " + over, x, want);
    }

    private static void manOnHisCrowningRow() {
        about("The CROWNING row is 5 for white men and 0 for black ones; no man ever stands on his"
                + " crowning row");
        for (int s = 0; s < 18; s++) {
            LimitedBoard x = new LimitedBoard();
            x.clear();
            due("put(" + s + ", 1)", x.put(s, WHITE_MAN), s < 15);
            due("at(" + s + ") after put(" + s + ", 1)", x.at(s), s < 15 ? 1 : 0);
            x.clear();
            due("put(" + s + ", 3)", x.put(s, BLACK_MAN), s >= 3);
            due("at(" + s + ") after put(" + s + ", 3)", x.at(s), s >= 3 ? 3 : 0);
        }
        for (int from = 12; from < 15; from++) {
            stepAll(from, WHITE_MAN, WHITE_KING);
        }
        for (int from = 3; from < 6; from++) {
            stepAll(from, BLACK_MAN, BLACK_KING);
        }
        for (int from = 3; from < 15; from++) {
            stepAll(from, from < 12 ? WHITE_MAN : BLACK_MAN, from < 12 ? WHITE_MAN : BLACK_MAN);
        }
    }

    private static void stepAll(int from, int piece, int then) {
        for (int to : NEAR[from]) {
            if (heads(piece, from, to)) {
                LimitedBoard x = withPieces(sideOf(piece), from, piece);
                go(x, from, to);
                due("at(" + to + ") after a step of " + piece + " from " + from, x.at(to), then);
            }
        }
    }

    private static void leapsThatCrown() {
        about("a man on his crowning row is a king");
        for (int[] leap : LEAPS) {
            LimitedBoard x = withPieces(0, leap[0], WHITE_MAN, leap[1], BLACK_MAN);
            go(x, leap[0], leap[2]);
            due("at(" + leap[2] + ") after a white man's leap", x.at(leap[2]), leap[2] >= 15 ? 2 : 1);
            x = withPieces(1, leap[2], BLACK_MAN, leap[1], WHITE_MAN);
            go(x, leap[2], leap[0]);
            due("at(" + leap[0] + ") after a black man's leap", x.at(leap[0]), leap[0] <= 2 ? 4 : 3);
        }
    }

    private static void noStepBesideAJump() {
        about("if there is a jump, steps are no moves");
        dueMoves("of the man who can leap", withPieces(0, 1, 1, 4, 3), "1-8/16");
        dueMoves("of another man", withPieces(0, 1, 1, 4, 3, 6, 1), "1-8/16");
        dueMoves("of a king and a man", withPieces(0, 1, 1, 4, 3, 15, 2), "1-8/16");
        dueMoves("of black men", withPieces(1, 16, 3, 13, 1, 8, 3), "16-9/8192");
        dueMoves("when the square behind is held", withPieces(0, 1, 1, 4, 3, 8, 3), "1-3");
        dueMoves("when a man has prey behind him", withPieces(0, 7, 1, 3, 3), "7-9 7-10");
    }

    private static void stepToAnEmptySquare() {
        about("STEP: the piece goes to a neighbouring empty square, a man only in his direction");
        for (int piece : PIECES) {
            for (int s = 3; s < 15; s++) {
                for (int to : NEAR[s]) {
                    int friend = sideOf(piece) == 0 ? WHITE_KING : BLACK_KING;
                    LimitedBoard x = withPieces(sideOf(piece), s, piece, to, friend);
                    boolean found = (" " + moves(x) + " ").contains(" " + s + "-" + to + " ");
                    due("a step from " + s + " to a friend's square " + to, found, false);
                }
            }
        }
        for (int side = 0; side <= 1; side++) {
            dueMoves("on a full board", with("112244121234344343", side), "");
            dueMoves("on a board full of white kings", with("222222222222222222", side), "");
            dueMoves("on an empty board", with(EMPTY, side), "");
        }
        dueMoves("on a full board but for one square", with("111111101333333333", 0), "3-7 4-7");
        dueMoves("of the other side there", with("111111101333333333", 1), "9-7 10-7");
    }

    private static void leapOverOthersOnly() {
        about("over a neighbouring piece of the other side");
        dueMoves("beside a friend", withPieces(0, 0, 2, 3, 1), "3-6 3-7");
        dueMoves("beside a king of one's own", withPieces(1, 17, 4, 14, 4), "14-10 14-11 14-16");
        dueMoves("two squares off the other side", withPieces(0, 0, 2, 7, 3), "0-3");
        dueMoves("with an empty square between", withPieces(0, 6, 2, 13, 4), "6-3 6-9");
    }

    private static void leapOverEachOnce() {
        about("which was not leapt over in this move yet");
        dueMoves("of a king who might leap back", withPieces(0, 0, 2, 3, 3), "0-7/8");
        dueMoves("of a king between two", withPieces(0, 7, 2, 3, 3, 10, 3), "7-0/8 7-14/1024");
        int ring = sum(3, 4, 9, 10);
        LimitedBoard x = withPieces(0, 1, 2, 3, 3, 4, 3, 9, 3, 10, 3);
        dueMoves("round a ring, once", x, "1-1/" + ring);
        due("play(0)", x.play(0), 4);
    }

    private static void leapToAnEmptySquare() {
        about("to the empty square behind that");
        for (int[] leap : LEAPS) {
            for (int stone : PIECES) {
                if (isAllowed(leap[2], stone)) {
                    LimitedBoard x = withPieces(0, leap[0], WHITE_KING, leap[1], BLACK_KING, leap[2], stone);
                    boolean found = moves(x).contains(leap[0] + "-" + leap[2]);
                    due("a leap from " + leap[0] + " to " + leap[2] + " where " + stone + " stands", found, false);
                }
            }
        }
    }

    private static void beginningCountsAsEmpty() {
        about("the square from which the move began counts as empty");
        int[][] rings = {{1, 6, 13, 8}, {4, 9, 16, 11}};
        int[][] preys = {{3, 4, 9, 10}, {7, 8, 13, 14}};
        for (int ring = 0; ring < 2; ring++) {
            int[] prey = preys[ring];
            for (int from : rings[ring]) {
                LimitedBoard x = withPieces(0, from, 2, prey[0], 4, prey[1], 4, prey[2], 3, prey[3], 4);
                dueMoves("round a ring from " + from, x, from + "-" + from + "/" + sum(prey));
                due("play(0) round a ring", x.play(0), 4);
                dueBoard("after a ring", x, board(withPieces(0, from, 2)));
                due("undo()", x.undo(), true);
                due("at(" + from + ")", x.at(from), 2);
                x = withPieces(1, from, 4, prey[0], 2, prey[1], 2, prey[2], 1, prey[3], 2);
                dueMoves("round a ring from " + from, x, from + "-" + from + "/" + sum(prey));
            }
        }
        LimitedBoard x = withPieces(0, 1, 2, 3, 3, 4, 3, 9, 3, 10, 3, 8, 2);
        dueMoves("round a ring with a friend on it", x, "1-13/" + sum(3, 9) + " 8-6/" + sum(10, 9));
    }

    private static void manLeapsOneWay() {
        about("a man only in his direction");
        LimitedBoard x = withPieces(0, 1, 1, 3, 3, 9, 3, 10, 3);
        dueMoves("of a white man who might leap on backwards", x, "1-13/" + sum(3, 9));
        x = withPieces(0, 1, 2, 3, 3, 9, 3, 10, 3);
        dueMoves("of a king in his place", x, "1-8/" + sum(3, 9, 10));
        x = withPieces(1, 16, 3, 13, 1, 7, 1, 8, 1);
        dueMoves("of a black man who might leap on backwards", x, "16-4/" + sum(13, 7));
        x = withPieces(1, 16, 4, 13, 1, 7, 1, 8, 1);
        dueMoves("of a king in his place", x, "16-11/" + sum(13, 7, 8));
    }

    private static void jumpGoesOnToItsEnd() {
        about("the jump ends when the piece can't leap any more");
        dueMoves("of two leaps in a line", withPieces(0, 0, 1, 3, 3, 10, 3), "0-14/" + sum(3, 10));
        dueMoves("of three leaps", withPieces(0, 1, 2, 3, 3, 9, 4, 10, 3), "1-8/" + sum(3, 9, 10));
        LimitedBoard x = withPieces(0, 1, 1, 3, 3, 4, 3, 10, 3);
        dueMoves("one short, one long", x, "1-6/8 1-13/" + sum(4, 10));
        x = withPieces(0, 0, 2, 3, 3, 4, 3, 9, 3, 10, 3);
        dueMoves("with three ways on", x, "0-2/" + sum(3, 4) + " 0-12/" + sum(3, 9) + " 0-14/" + sum(3, 10));
        x = withPieces(0, 7, 2, 3, 3, 4, 3, 9, 3, 10, 3);
        dueMoves("with four ways", x, "7-0/8 7-2/16 7-12/512 7-14/1024");
        x = withPieces(0, 0, 1, 3, 3, 10, 3, 14, 3);
        dueMoves("when the way on is held", x, "0-7/8");
    }

    private static void jumpEndsOnTheCrowningRow() {
        about("or when a man has come to his crowning row");
        LimitedBoard x = withPieces(0, 9, 1, 13, 3, 14, 3);
        dueMoves("of a white man", x, "9-16/" + sum(13));
        due("play(0)", x.play(0), 1);
        due("at(16)", x.at(16), 2);
        due("at(14)", x.at(14), 3);
        dueMoves("of a white king", withPieces(0, 9, 2, 13, 3, 14, 3), "9-11/" + sum(13, 14));
        x = withPieces(1, 6, 3, 3, 1, 4, 1);
        dueMoves("of a black man", x, "6-1/" + sum(3));
        due("play(0)", x.play(0), 1);
        due("at(1)", x.at(1), 4);
        due("at(4)", x.at(4), 1);
        dueMoves("of a black king", withPieces(1, 6, 4, 3, 1, 4, 1), "6-8/" + sum(3, 4));
        x = withPieces(0, 4, 1, 7, 3, 8, 3, 13, 3, 14, 3);
        dueMoves("of a man who leaps twice", x, "4-16/" + sum(7, 13) + " 4-16/" + sum(8, 14));
    }

    private static void afterAMove() {
        about("Then taken pieces are gone, a man on his crowning row is a king, and the other side is to move");
        LimitedBoard x = withPieces(0, 4, 1, 7, 4, 8, 3, 13, 3, 14, 4);
        due("play(1) over a man and a king", x.play(1), 2);
        dueBoard("after it", x, "000000040000030020");
        due("side()", x.side(), 1);
        // The king that was taken leaves no crown behind for a man who comes there.
        x = withPieces(0, 1, 1, 2, 1, 4, 4, 17, 4);
        due("play(0) over a king", x.play(0), 1);
        go(x, 17, 14);
        go(x, 2, 4);
        due("at(4)", x.at(4), 1);
        // Nor does a king who goes away.
        x = withPieces(0, 7, 2, 4, 1, 17, 4);
        go(x, 7, 3);
        go(x, 17, 14);
        go(x, 4, 7);
        due("at(7)", x.at(7), 1);
    }

    private static void sameMovesAreOne() {
        about("Moves with the same beginning, end and taken pieces are one move");
        LimitedBoard x = withPieces(0, 1, 2, 3, 3, 4, 3, 9, 3, 10, 3);
        due("moves() of a ring, both ways round", x.moves(), 1);
        due("ways(1)", x.ways(1), 1);
        due("move(1, 0)", x.move(1, 0), BAD);
        due("play(1)", x.play(1), BAD);
        x = withPieces(0, 1, 1, 3, 3, 4, 3, 9, 3, 10, 3);
        due("moves() with other pieces taken", x.moves(), 2);
        x = withPieces(0, 1, 2, 13, 2, 3, 3, 4, 3, 9, 3, 10, 3);
        dueMoves("of two kings who stand in each other's way", x, "1-6/8 1-8/16 13-6/512 13-8/1024");
        x = withPieces(1, 13, 3, 3, 1, 4, 1, 9, 1, 10, 1);
        dueMoves("of a black man with two ways to one end", x, "13-1/" + sum(3, 9) + " 13-1/" + sum(4, 10));
    }

    private static void orderOfMoves() {
        about("Moves are numbered 0, 1, .. , ordered by the square where they begin, then by that"
                + " where they end, then by the sum of 2^s");
        dueMoves("of kings", withPieces(0, 7, 2, 5, 2, 17, 2), "5-2 5-8 7-3 7-4 7-9 7-10 17-14");
        dueMoves("of black kings", withPieces(1, 0, 4, 10, 4), "0-3 10-7 10-8 10-13 10-14");
        LimitedBoard x = withPieces(0, 4, 1, 9, 2, 7, 3, 8, 3, 13, 3, 14, 3);
        dueMoves("of a man and a king", x, "4-16/" + sum(8, 14) + " 9-11/" + sum(13, 14));
        x = withPieces(1, 16, 4, 8, 4, 13, 1, 4, 1);
        dueMoves("of jumps of kings", x, "8-1/16 16-9/8192");
        // The way that begins further left ends further up: the end counts, not the way.
        String ends = "1-8/16 1-13/" + sum(3, 9);
        dueMoves("of a man's jumps", withPieces(0, 1, 1, 3, 3, 4, 3, 9, 3), ends);
        dueMoves("of a king's jumps", withPieces(0, 1, 2, 3, 3, 4, 3, 9, 3), ends);
        x = withPieces(0, 0, 2, 1, 1, 2, 2, 3, 3, 4, 3, 9, 3);
        dueMoves("of jumps between others", x, "0-12/" + sum(3, 9) + " " + ends + " 2-12/" + sum(4, 9));
        x = withPieces(0, 10, 2, 7, 3, 8, 3, 13, 3, 14, 3);
        dueMoves("of jumps of one king", x, "10-3/128 10-5/256 10-15/8192 10-17/16384");
    }

    private static void gameAtFirst() {
        about("At first white men stand on 0 .. 5, black men on 12 .. 17, white is to move");
        LimitedBoard x = new LimitedBoard();
        for (int s = 0; s < 18; s++) {
            due("at(" + s + ")", x.at(s), s <= 5 ? 1 : s >= 12 ? 3 : 0);
        }
        due("side()", x.side(), 0);
        dueMoves("at first", x, "3-6 3-7 4-7 4-8 5-8");
    }

    private static void quietCountsStepsOfKings() {
        about("QUIET is the number of the latest moves in a row that were steps of kings");
        LimitedBoard x = afterKingSteps(1);
        due("quiet() after one", x.quiet(), 1);
        due("quiet() after 19", afterKingSteps(19).quiet(), 19);
        due("quiet() after 20", afterKingSteps(20).quiet(), 20);
        x = afterKingSteps(7);
        go(x, 9, 6);
        due("quiet() after a black man's step", x.quiet(), 0);
        go(x, 0, 3);
        due("quiet() after a king's step again", x.quiet(), 1);
        x = afterKingSteps(8);
        go(x, 5, 8);
        due("quiet() after a white man's step", x.quiet(), 0);
        x = withPieces(0, 15, 2, 14, 1, 5, 4, 3, 3);
        go(x, 15, 12);
        go(x, 5, 2);
        due("quiet() after two", x.quiet(), 2);
        go(x, 14, 17);
        due("quiet() after a man's step that crowns", x.quiet(), 0);
        go(x, 3, 0);
        due("quiet() after the other man's", x.quiet(), 0);
        go(x, 17, 14);
        due("quiet() after a step of the man who was crowned", x.quiet(), 1);
    }

    private static void quietAndJumps() {
        about("QUIET .. steps of kings: a jump is no step");
        LimitedBoard x = withPieces(0, 0, 2, 17, 4, 8, 4);
        go(x, 0, 3);
        go(x, 17, 14);
        go(x, 3, 7);
        go(x, 8, 4);
        due("quiet() before a jump", x.quiet(), 4);
        due("play(0)", x.play(0), 1);
        due("quiet() after a king's jump", x.quiet(), 0);
        due("undo()", x.undo(), true);
        due("quiet() when it is taken back", x.quiet(), 4);
        x = withPieces(0, 0, 2, 1, 1, 8, 4);
        go(x, 0, 3);
        go(x, 8, 4);
        due("quiet() before a man's jump", x.quiet(), 2);
        due("play(0)", x.play(0), 1);
        due("quiet() after a man's jump", x.quiet(), 0);
    }

    private static void quietStartsAgain() {
        about("since the board was changed otherwise last");
        LimitedBoard x = afterKingSteps(6);
        x.put(8, 0);
        due("quiet() after put", x.quiet(), 0);
        go(x, 3, 0);
        due("quiet() after put and a step", x.quiet(), 1);
        x = afterKingSteps(6);
        x.turn(0);
        due("quiet() after turn", x.quiet(), 0);
        x = afterKingSteps(6);
        x.clear();
        due("quiet() after clear", x.quiet(), 0);
        x = afterKingSteps(6);
        x.begin();
        due("quiet() after begin", x.quiet(), 0);
    }

    private static void overWithoutAMove() {
        about("The game is OVER when the side to move has no move (the other one has won)");
        due("over() when white has no piece", withPieces(0, 17, 4).over(), 2);
        due("over() when black has no piece", withPieces(1, 0, 2).over(), 1);
        due("over() when white is blocked", withPieces(0, 6, 1, 9, 3, 13, 3).over(), 2);
        due("over() when black is blocked", withPieces(1, 11, 3, 8, 1, 4, 1).over(), 1);
        due("over() when all men stand at the end of their way", withPieces(0, 12, 1, 15, 4).over(), 2);
        due("over() when the other side is blocked", withPieces(1, 6, 1, 9, 3, 13, 3).over(), 0);
        due("over() on a full board", with("112244121234344343", 0).over(), 2);
        due("over() on a full board, black to move", with("112244121234344343", 1).over(), 1);
        due("over() on an empty board", with(EMPTY, 0).over(), 2);
        due("over() on an empty board, black to move", with(EMPTY, 1).over(), 1);
    }

    private static void overAtQuiet20() {
        about("or else when QUIET is 20 (drawn)");
        due("over() at QUIET 18", afterKingSteps(18).over(), 0);
        LimitedBoard x = afterKingSteps(19);
        due("over() at QUIET 19", x.over(), 0);
        due("play(0) at QUIET 19", x.play(0) >= 0, true);
        x = afterKingSteps(20);
        due("over() at QUIET 20", x.over(), 3);
        due("play(0) at QUIET 20", x.play(0), BAD);
        due("undo()", x.undo(), true);
        due("over() at QUIET 19 again", x.over(), 0);
        x = withPieces(1, 0, 2, 5, 1, 9, 3, 17, 4);
        for (int i = 0; i < 10; i++) {
            go(x, i % 2 == 0 ? 17 : 14, i % 2 == 0 ? 14 : 17);
            due("over() before black has moved again", x.over(), 0);
            go(x, i % 2 == 0 ? 0 : 3, i % 2 == 0 ? 3 : 0);
        }
        due("over() when black began", x.over(), 3);
    }

    private static void blockedAtQuiet20IsWon() {
        about("no move (the other one has won), or else when QUIET is 20");
        LimitedBoard x = blockedAtQuiet20();
        due("quiet()", x.quiet(), 20);
        due("moves()", x.moves(), 0);
        due("over()", x.over(), 1);
        due("play(0)", x.play(0), BAD);
    }

    private static void lostIn0() {
        about("A position is LOST IN 0 if the side to move has no move");
        due("verdict() of a blocked white man", withPieces(0, 12, 1, 15, 3).verdict(), -100);
        due("verdict() beside a king", withPieces(0, 12, 1, 15, 4).verdict(), -100);
        due("verdict() of a blocked black man", withPieces(1, 5, 3, 2, 2).verdict(), -100);
        due("verdict() beside a man", withPieces(1, 5, 3, 2, 1).verdict(), -100);
        due("verdict() of the other side", withPieces(1, 12, 1, 15, 4).verdict() == -100, false);
    }

    /** The verdicts behind each move, to show that the test's positions have the choice meant. */
    private static String behindMoves(LimitedBoard x) {
        StringBuilder text = new StringBuilder();
        for (int i = 0; i < x.moves(); i++) {
            x.play(i);
            text.append(i == 0 ? "" : " ").append(x.verdict());
            x.undo();
        }
        return text.toString();
    }

    private static void dueVerdict(LimitedBoard x, String behind, int want) {
        due("verdict() of " + board(x) + " " + x.side(), x.verdict(), want);
        due("verdict() behind its moves", behindMoves(x), behind);
    }

    private static void wonInTheLeast() {
        about("WON IN n, n being one more than the least m of those moves' positions that are lost in m");
        dueVerdict(withPieces(0, 0, 1, 3, 3), "-2000", 1);
        dueVerdict(withPieces(0, 4, 2, 5, 3), "7 -100 0 0", 1);
        dueVerdict(withPieces(1, 12, 1, 13, 4), "0 0 -100 7", 1);
        dueVerdict(withPieces(0, 8, 2, 16, 3), "-6 -8 -2 -8", 3);
        dueVerdict(withPieces(1, 1, 1, 9, 4), "-8 -2 -8 -6", 3);
        dueVerdict(withPieces(0, 7, 2, 16, 4), "0 0 -6 -2", 3);
        dueVerdict(withPieces(1, 8, 1, 3, 4), "0 0 -8 -4", 5);
        dueVerdict(withPieces(0, 2, 2, 16, 3), "-6 -8", 7);
        dueVerdict(withPieces(0, 14, 1, 16, 3), "-8", 9);
    }

    private static void lostInTheGreatest() {
        about("LOST IN n, if every move leads to a won position, n being one more than the greatest m");
        dueVerdict(withPieces(0, 0, 1, 1, 4), "1", -2);
        dueVerdict(withPieces(0, 1, 1, 7, 3), "1 1", -2);
        dueVerdict(withPieces(0, 14, 2, 7, 4), "1 3 3 3", -4);
        dueVerdict(withPieces(0, 3, 2, 4, 4), "3 3 3 1", -4);
        dueVerdict(withPieces(0, 4, 1, 15, 4), "3 5", -6);
        dueVerdict(withPieces(0, 1, 1, 0, 4), "1 7", -8);
        dueVerdict(withPieces(1, 5, 2, 16, 3), "7 5", -8);
    }

    private static void drawnOtherwise() {
        about("the others are drawn");
        dueVerdict(withPieces(0, 14, 2, 0, 4), "0 0 0 7", 0);
        dueVerdict(withPieces(0, 3, 2, 4, 3), "3 7 0 0", 0);
        dueVerdict(withPieces(1, 5, 2, 4, 3), "7 0", 0);
        dueVerdict(withPieces(0, 0, 1, 4, 3), "0", 0);
    }

    private static void verdictWithoutQuiet() {
        about("QUIET does not count here");
        LimitedBoard x = quietEnding();
        due("over()", x.over(), 3);
        due("verdict() at QUIET 20", x.verdict(), 7);
        due("undo()", x.undo(), true);
        due("quiet()", x.quiet(), 19);
        due("verdict() at QUIET 19", x.verdict(), 0);
    }

    private static void valueOfEndings() {
        about("if each side has one piece: 1000 - n if it is won in n, n - 1000 if it is lost in n, 0 if drawn");
        for (int depth = 0; depth <= 4; depth++) {
            String call = "value(" + depth + ")";
            due(call + " won in 1", withPieces(0, 0, 1, 3, 3).value(depth), 999);
            due(call + " won in 9", withPieces(0, 14, 1, 16, 3).value(depth), 991);
            due(call + " lost in 0", withPieces(0, 12, 1, 15, 3).value(depth), -1000);
            due(call + " lost in 2", withPieces(0, 0, 1, 1, 4).value(depth), -998);
            due(call + " lost in 8", withPieces(0, 1, 1, 0, 4).value(depth), -992);
            due(call + " drawn", withPieces(0, 14, 2, 0, 4).value(depth), 0);
            due(call + " drawn, with a man less a king", withPieces(0, 3, 2, 4, 3).value(depth), 0);
        }
    }

    private static void valueWithoutAMove() {
        about("Otherwise -1000 if there is no move");
        for (int depth = 0; depth <= 4; depth++) {
            String call = "value(" + depth + ")";
            due(call + " on an empty board", with(EMPTY, 0).value(depth), -1000);
            due(call + " on a full board", with("112244121234344343", 1).value(depth), -1000);
            due(call + " of many blocked men", withPieces(0, 12, 1, 13, 1, 14, 1, 15, 4, 16, 4, 17, 4).value(depth), -1000);
            due(call + " of a blocked man", withPieces(0, 6, 1, 9, 3, 13, 3).value(depth), -1000);
            due(call + " of a side without pieces", withPieces(1, 0, 2, 1, 2).value(depth), -1000);
        }
    }

    private static void valueAtDepth0() {
        about("at depth 0, 2 for each man and 3 for each king of the side to move, less the same of the other side");
        due("value(0) of one man", withPieces(0, 0, 1).value(0), 2);
        due("value(0) of one king", withPieces(1, 0, 4).value(0), 3);
        due("value(0) of two men and a king", withPieces(0, 0, 1, 1, 1, 2, 2, 17, 3, 16, 4).value(0), 7 - 5);
        due("value(0) for black", withPieces(1, 0, 1, 1, 1, 2, 2, 17, 3, 16, 4).value(0), 5 - 7);
        due("value(0) before a jump", withPieces(0, 0, 1, 3, 3, 17, 4).value(0), 2 - 5);
        due("value(0) of 17 kings", with("222222222222222220", 0).value(0), 51);
        due("value(0) at QUIET 20", afterKingSteps(20).value(0), 0);
        // A side that is all but lost has no less at depth 0 while it has a move.
        due("value(0) before nothing is left", withPieces(0, 0, 1, 4, 3, 8, 3).value(0), 2 - 4);
    }

    private static void valueAboveDepth0() {
        about("at a depth above 0 the greatest of the values of the moves' positions at a depth one less, each negated");
        LimitedBoard x = withPieces(0, 5, 1, 0, 2);
        due("value(0) against nobody", x.value(0), 5);
        due("value(1) against nobody", x.value(1), 1000);
        due("value(4) against nobody", x.value(4), 1000);
        // Either jump takes one piece; the one that takes the king leaves black less.
        x = withPieces(0, 1, 1, 3, 3, 4, 4, 17, 3, 0, 1);
        due("value(0)", x.value(0), 4 - 7);
        due("value(1)", x.value(1), 4 - 4);
        for (int depth = 1; depth <= 4; depth++) {
            dueGreatest(new LimitedBoard(), depth);
            dueGreatest(with(LONG_BOARD, 0), depth);
            dueGreatest(with(LONG_BOARD, 1), depth);
            dueGreatest(withPieces(1, 0, 2, 3, 1, 16, 4), depth);
            dueGreatest(withPieces(0, 13, 1, 7, 4, 17, 3), depth);
            dueGreatest(afterKingSteps(19), depth);
        }
    }

    private static void dueGreatest(LimitedBoard x, int depth) {
        int greatest = MIN;
        int count = x.moves();
        for (int i = 0; i < count; i++) {
            x.play(i);
            greatest = Math.max(greatest, -x.value(depth - 1));
            x.undo();
        }
        due("value(" + depth + ") of " + board(x) + " " + x.side(), x.value(depth), greatest);
    }

    private static void constants() {
        about("BAD = -1, NONE = -2000");
        due("BAD", JumpBoard.BAD, -1);
        due("NONE", JumpBoard.NONE, -2000);
    }

    public static void main(String[] args) {
        callsUpTo512();
        squaresFrom0To17();
        neighboursUpToTheEdge();
        menGoOneWay();
        behindUpToTheEdge();
        manOnHisCrowningRow();
        leapsThatCrown();
        noStepBesideAJump();
        stepToAnEmptySquare();
        leapOverOthersOnly();
        leapOverEachOnce();
        leapToAnEmptySquare();
        beginningCountsAsEmpty();
        manLeapsOneWay();
        jumpGoesOnToItsEnd();
        jumpEndsOnTheCrowningRow();
        afterAMove();
        sameMovesAreOne();
        orderOfMoves();
        gameAtFirst();
        quietCountsStepsOfKings();
        quietAndJumps();
        quietStartsAgain();
        overWithoutAMove();
        overAtQuiet20();
        blockedAtQuiet20IsWon();
        lostIn0();
        wonInTheLeast();
        lostInTheGreatest();
        drawnOtherwise();
        verdictWithoutQuiet();
        valueOfEndings();
        valueWithoutAMove();
        valueAtDepth0();
        valueAboveDepth0();
        constants();
        end();
    }
}
