/** The document's promises one by one: ordinary inputs, the edges it names, and wrong inputs. */
public final class PromiseTest extends Trial {
    private static void dueMove(LimitedBoard x, int i, int begin, int end, int taken) {
        due("move(" + i + ", 0)", x.move(i, 0), begin);
        due("move(" + i + ", 1)", x.move(i, 1), end);
        due("move(" + i + ", 2)", x.move(i, 2), taken);
    }

    private static void dueFirst(String when, LimitedBoard x) {
        dueBoard(when, x, FIRST);
        due("side() " + when, x.side(), 0);
        due("played() " + when, x.played(), 0);
        due("quiet() " + when, x.quiet(), 0);
        due("over() " + when, x.over(), 0);
        due("moves() " + when, x.moves(), 5);
        due("undo() " + when, x.undo(), false);
    }

    private static void newObject() {
        about("promise 1");
        dueFirst("at first", new LimitedBoard());
        LimitedBoard one = new LimitedBoard();
        one.play(0);
        dueFirst("beside another one", new LimitedBoard());
    }

    private static void begin() {
        about("promise 2");
        LimitedBoard x = new LimitedBoard();
        x.play(0);
        x.begin();
        dueFirst("after a move and begin", x);
        x.clear();
        x.turn(1);
        x.begin();
        dueFirst("after clear, turn and begin", x);
        x = afterKingSteps(5);
        x.begin();
        dueFirst("after steps of kings and begin", x);
    }

    private static void clear() {
        about("promise 3");
        LimitedBoard x = afterKingSteps(5);
        x.clear();
        dueBoard("after clear", x, "000000000000000000");
        due("side() after clear with black to move", x.side(), 0);
        due("played()", x.played(), 0);
        due("quiet()", x.quiet(), 0);
        due("undo()", x.undo(), false);
        due("moves()", x.moves(), 0);
        x.put(7, 1);
        due("a new man where none was a king", x.at(7), 1);
        x = withPieces(1, 4, 4);
        x.clear();
        x.put(4, 3);
        due("a man where a king stood before clear", x.at(4), 3);
    }

    private static void put() {
        about("promise 4");
        for (int s = 0; s < 18; s++) {
            LimitedBoard x = new LimitedBoard();
            x.clear();
            for (int piece : new int[] {2, 1, 4, 3, 2, 3, 4, 1, 2, 0, 1, 0, 4, 0, 3, 0}) {
                boolean crowned = piece == 1 && s >= 15 || piece == 3 && s <= 2;
                int before = x.at(s);
                due("put(" + s + ", " + piece + ")", x.put(s, piece), !crowned);
                due("at(" + s + ")", x.at(s), crowned ? before : piece);
                due("at another square", x.at((s + 1) % 18), 0);
            }
        }
        int[][] refused = {{-1, 1}, {18, 1}, {MIN, 2}, {MAX, 2}, {32, 2}, {7, -1}, {7, 5}, {7, MIN}, {7, MAX},
            {15, 1}, {16, 1}, {17, 1}, {0, 3}, {1, 3}, {2, 3}, {18, 0}, {-1, 5}};
        for (int[] wish : refused) {
            LimitedBoard x = afterKingSteps(3);
            due("put(" + wish[0] + ", " + wish[1] + ")", x.put(wish[0], wish[1]), false);
            due("played() after it", x.played(), 3);
            due("quiet() after it", x.quiet(), 3);
            dueBoard("after it", x, "200001000300004000");
            due("undo() after it", x.undo(), true);
        }
        LimitedBoard x = afterKingSteps(3);
        due("put(7, 0)", x.put(7, 0), true);
        due("played() after put", x.played(), 0);
        due("quiet() after put", x.quiet(), 0);
        due("side() after put", x.side(), 1);
        due("at(0) after put", x.at(0), 2);
        due("undo() after put", x.undo(), false);
        go(x, 14, 17);
        due("quiet() starts again", x.quiet(), 1);
        due("undo()", x.undo(), true);
        due("quiet() taken back", x.quiet(), 0);
        due("undo() beyond the put", x.undo(), false);
    }

    private static void turn() {
        about("promise 5");
        for (int side = 0; side <= 1; side++) {
            for (int steps = 2; steps <= 3; steps++) {
                LimitedBoard x = afterKingSteps(steps);
                due("turn(" + side + ")", x.turn(side), true);
                due("side()", x.side(), side);
                due("played()", x.played(), 0);
                due("quiet()", x.quiet(), 0);
                due("at(0)", x.at(0), steps == 3 ? 2 : 0);
                due("at(3)", x.at(3), steps == 2 ? 2 : 0);
                due("undo()", x.undo(), false);
            }
        }
        for (int side : new int[] {-1, 2, 3, MIN, MAX}) {
            LimitedBoard x = afterKingSteps(3);
            due("turn(" + side + ")", x.turn(side), false);
            due("side()", x.side(), 1);
            due("played()", x.played(), 3);
            due("quiet()", x.quiet(), 3);
            due("undo()", x.undo(), true);
        }
    }

    private static void at() {
        about("promise 6");
        LimitedBoard x = withPieces(1, 0, 1, 1, 2, 3, 3, 4, 4, 12, 1, 15, 3, 16, 4, 17, 2);
        dueBoard("put so", x, "120340000000100342");
        for (int square : new int[] {-1, 18, 32, MIN, MAX}) {
            due("at(" + square + ")", x.at(square), BAD);
        }
        dueBoard("at first", new LimitedBoard(), FIRST);
    }

    private static void side() {
        about("promise 7");
        LimitedBoard x = new LimitedBoard();
        due("side()", x.side(), 0);
        x.play(0);
        due("side() after a move", x.side(), 1);
        x.play(99);
        due("side() after a refused move", x.side(), 1);
        x.play(0);
        due("side() after two moves", x.side(), 0);
        x.undo();
        due("side() after undo", x.side(), 1);
    }

    private static void moves() {
        about("promise 8");
        due("moves() at first", new LimitedBoard().moves(), 5);
        due("moves() of a king in the middle", withPieces(0, 7, 2).moves(), 4);
        due("moves() of a white man there", withPieces(0, 7, 1).moves(), 2);
        due("moves() of a black man there", withPieces(1, 7, 3).moves(), 2);
        due("moves() of the side without pieces", withPieces(1, 7, 2).moves(), 0);
        due("moves() with a jump and steps", withPieces(0, 0, 1, 3, 3, 5, 1).moves(), 1);
        due("moves() of a man with prey behind", withPieces(0, 7, 1, 3, 3).moves(), 2);
        due("moves() of a king with prey behind", withPieces(0, 7, 2, 3, 3).moves(), 1);
        due("moves() of a king on a ring both ways", withPieces(0, 1, 2, 3, 3, 4, 3, 9, 3, 10, 3).moves(), 1);
        due("moves() with the square behind held", withPieces(0, 0, 2, 3, 3, 7, 3).moves(), 0);
        due("moves() over own pieces", withPieces(0, 0, 2, 3, 1).moves(), 2);
        LimitedBoard drawn = afterKingSteps(20);
        due("over()", drawn.over(), 3);
        due("moves() when drawn", drawn.moves(), 2);
        dueMove(drawn, 0, 0, 3, 0);
        dueMove(drawn, 1, 5, 8, 0);
    }

    private static void move() {
        about("promise 9");
        LimitedBoard x = new LimitedBoard();
        int[][] first = {{3, 6}, {3, 7}, {4, 7}, {4, 8}, {5, 8}};
        for (int i = 0; i < first.length; i++) {
            dueMove(x, i, first[i][0], first[i][1], 0);
        }
        x = withPieces(0, 7, 2, 5, 2);
        int[][] kings = {{5, 2}, {5, 8}, {7, 3}, {7, 4}, {7, 9}, {7, 10}};
        due("moves() of two kings", x.moves(), kings.length);
        for (int i = 0; i < kings.length; i++) {
            dueMove(x, i, kings[i][0], kings[i][1], 0);
        }
        x = withPieces(0, 1, 1, 3, 3, 4, 4, 9, 3, 10, 3);
        due("moves() of a man with two ways to one end", x.moves(), 2);
        dueMove(x, 0, 1, 13, 1 << 3 | 1 << 9);
        dueMove(x, 1, 1, 13, 1 << 4 | 1 << 10);
        dueMove(withPieces(0, 1, 2, 3, 3, 4, 3, 9, 3, 10, 3), 0, 1, 1, 1 << 3 | 1 << 4 | 1 << 9 | 1 << 10);
        dueMove(withPieces(1, 16, 3, 13, 1, 7, 1), 0, 16, 4, 1 << 13 | 1 << 7);
        x = withPieces(0, 7, 1, 10, 3, 13, 3, 9, 3);
        due("moves() of a man with jumps to both sides", x.moves(), 2);
        dueMove(x, 0, 7, 12, 1 << 9);
        dueMove(x, 1, 7, 14, 1 << 10);
        wrongMoves(new LimitedBoard(), 5);
        wrongMoves(withPieces(0), 0);
    }

    private static void wrongMoves(LimitedBoard x, int count) {
        for (int what = 0; what <= 2; what++) {
            for (int i : new int[] {-1, count, count + 1, 72, 73, MIN, MAX}) {
                due("move(" + i + ", " + what + ")", x.move(i, what), BAD);
            }
        }
        for (int what : new int[] {-1, 3, MIN, MAX}) {
            due("move(0, " + what + ")", x.move(0, what), BAD);
            due("move(-1, " + what + ")", x.move(-1, what), BAD);
        }
    }

    private static void play() {
        about("promise 10");
        LimitedBoard x = new LimitedBoard();
        due("play(1)", x.play(1), 0);
        dueBoard("after it", x, "111011010000333333");
        for (int i : new int[] {-1, 99, MIN, MAX}) {
            due("play(" + i + ")", x.play(i), BAD);
        }
        due("played() after refusals", x.played(), 1);
        due("play(moves())", x.play(x.moves()), BAD);

        x = withPieces(0, 1, 2, 3, 3, 4, 4, 9, 3, 10, 3);
        due("play(0) round a ring", x.play(0), 4);
        dueBoard("after the ring", x, "020000000000000000");
        x = withPieces(0, 1, 1, 3, 3, 4, 4, 9, 3, 10, 3);
        due("play(1) of a man", x.play(1), 2);
        dueBoard("after it", x, "000300000300010000");
        // The king that was taken leaves no crown behind for a man who comes there.
        x = withPieces(0, 1, 1, 2, 1, 4, 4, 17, 4);
        due("play(0) over a king", x.play(0), 1);
        go(x, 17, 14);
        go(x, 2, 4);
        due("at(4)", x.at(4), 1);

        crowning();
        x = withPieces(0, 1, 2, 4, 4);
        due("play(0) that wins", x.play(0), 1);
        due("play(0) after the win", x.play(0), BAD);
        x = afterKingSteps(20);
        due("play(0) when drawn", x.play(0), BAD);
        due("played() when drawn", x.played(), 20);

        x = longGame(100);
        due("play(0) after 100 moves", x.play(0), BAD);
        due("played()", x.played(), 100);
        due("over()", x.over(), 0);
        due("undo()", x.undo(), true);
        due("play(0) after 99 moves", x.play(0), 0);
        due("play(0) after 100 moves again", x.play(0), BAD);
    }

    private static void crowning() {
        LimitedBoard x = withPieces(0, 12, 1, 17, 4);
        go(x, 12, 15);
        due("a white man who steps to row 5", x.at(15), 2);
        x = withPieces(1, 5, 3, 17, 2);
        go(x, 5, 2);
        due("a black man who steps to row 0", x.at(2), 4);
        x = withPieces(0, 10, 1, 13, 3, 14, 3);
        due("moves() of a man with two jumps", x.moves(), 2);
        go(x, 10, 15);
        due("a white man who leaps to row 5", x.at(15), 2);
        // He would leap on as a king, but the jump ends on the crowning row.
        x = withPieces(0, 9, 1, 13, 3, 14, 3);
        dueMove(x, 0, 9, 16, 1 << 13);
        due("play(0)", x.play(0), 1);
        due("at(16)", x.at(16), 2);
        due("at(14)", x.at(14), 3);
        x = withPieces(0, 12, 1, 5, 3);
        go(x, 12, 15);
        go(x, 5, 2);
        go(x, 15, 12);
        due("a king goes back", x.at(12), 2);
    }

    private static void undo() {
        about("promise 11");
        due("undo() at first", new LimitedBoard().undo(), false);
        for (int kept = 0; kept <= 100; kept++) {
            backTo(kept);
        }
        LimitedBoard x = longGame(100);
        for (int i = 0; i < 100; i++) {
            due("undo()", x.undo(), true);
        }
        due("undo() when all is taken back", x.undo(), false);
        dueBoard("when all is taken back", x, LONG_BOARD);
        x = withPieces(0, 1, 2, 3, 3, 4, 4, 9, 3, 10, 3);
        x.play(0);
        x.undo();
        dueBoard("after a jump was taken back", x, "020340000330000000");
        x = afterKingSteps(20);
        due("undo() when drawn", x.undo(), true);
        due("over() then", x.over(), 0);
    }

    /** The long game, taken back until so many moves are left, is as if no more had been played. */
    private static void backTo(int kept) {
        LimitedBoard x = longGame(100);
        for (int i = 100; i > kept; i--) {
            due("undo()", x.undo(), true);
        }
        LimitedBoard fresh = longGame(kept);
        String when = "() with " + kept + " moves left";
        due("played" + when, x.played(), kept);
        due("board" + when, board(x), board(fresh));
        due("moves" + when, moves(x), moves(fresh));
        due("quiet" + when, x.quiet(), fresh.quiet());
        due("side" + when, x.side(), kept % 2);
    }

    private static void played() {
        about("promise 12");
        LimitedBoard x = new LimitedBoard();
        for (int i = 0; i < 4; i++) {
            due("played()", x.played(), i);
            x.play(0);
        }
        x.play(-1);
        due("played() after a refusal", x.played(), 4);
        x.undo();
        x.undo();
        due("played() after two were taken back", x.played(), 2);
        x.play(0);
        due("played() after one more", x.played(), 3);
        x.turn(0);
        due("played() after turn", x.played(), 0);
        x.undo();
        due("played() after a refused undo", x.played(), 0);
    }

    private static void over() {
        about("promise 13");
        due("over() at first", new LimitedBoard().over(), 0);
        due("over() of an empty board", withPieces(0).over(), 2);
        due("over() of an empty board, black to move", withPieces(1).over(), 1);
        due("over() when white is blocked", withPieces(0, 0, 2, 3, 3, 7, 3).over(), 2);
        due("over() when black is blocked", withPieces(1, 17, 4, 14, 1, 10, 2).over(), 1);
        due("over() when only a jump is left", withPieces(0, 0, 2, 3, 3).over(), 0);
        LimitedBoard x = afterKingSteps(19);
        due("over() at QUIET 19", x.over(), 0);
        x = afterKingSteps(20);
        due("over() at QUIET 20", x.over(), 3);
        x.put(8, 0);
        due("over() after a put", x.over(), 0);

        x = blockedAtQuiet20();
        due("quiet()", x.quiet(), 20);
        due("moves()", x.moves(), 0);
        due("over() at QUIET 20 without a move", x.over(), 1);
    }

    private static void quiet() {
        about("promise 14");
        due("quiet() at first", new LimitedBoard().quiet(), 0);
        LimitedBoard x = new LimitedBoard();
        x.play(0);
        due("quiet() after a man's step", x.quiet(), 0);
        x = afterKingSteps(4);
        go(x, 5, 8);
        due("quiet() after a man's step among kings'", x.quiet(), 0);
        x.undo();
        due("quiet() when it is taken back", x.quiet(), 4);
        x = withPieces(0, 0, 2, 17, 4, 8, 4);
        go(x, 0, 3);
        go(x, 17, 14);
        go(x, 3, 7);
        go(x, 8, 4);
        due("quiet() after four steps", x.quiet(), 4);
        due("play(0) is a king's jump", x.play(0), 1);
        due("quiet() after a king's jump", x.quiet(), 0);
        x = withPieces(0, 12, 1, 5, 4);
        go(x, 12, 15);
        due("quiet() after a step that crowns", x.quiet(), 0);
        go(x, 5, 2);
        go(x, 15, 12);
        due("quiet() after steps of kings", x.quiet(), 2);
        x.play(-1);
        due("quiet() after a refusal", x.quiet(), 2);
        x.value(4);
        x.best(4);
        x.ways(4);
        due("quiet() after searches", x.quiet(), 2);
    }

    private static void ways() {
        about("promise 15");
        LimitedBoard x = new LimitedBoard();
        int[] first = {1, 5, 25, 106, 369};
        for (int depth = 0; depth <= 4; depth++) {
            due("ways(" + depth + ")", x.ways(depth), first[depth]);
        }
        for (int depth : new int[] {-1, 5, MIN, MAX}) {
            due("ways(" + depth + ")", x.ways(depth), BAD);
        }
        dueFirst("after counting", x);
        x = withPieces(0);
        due("ways(0) without a move", x.ways(0), 1);
        due("ways(1) without a move", x.ways(1), 0);
        due("ways(4) without a move", x.ways(4), 0);
        x = withPieces(0, 1, 2, 4, 4);
        due("ways(1) of the winning jump", x.ways(1), 1);
        due("ways(2) behind the winning jump", x.ways(2), 0);
        x = afterKingSteps(20);
        LimitedBoard fresh = with(board(x), x.side());
        for (int depth = 0; depth <= 4; depth++) {
            due("ways(" + depth + ") at QUIET 20", x.ways(depth), fresh.ways(depth));
        }
        due("ways(1) at QUIET 20", x.ways(1), 2);
    }

    private static void verdict() {
        about("promise 16");
        due("verdict() at first", new LimitedBoard().verdict(), NONE);
        due("verdict() of an empty board", withPieces(0).verdict(), NONE);
        due("verdict() of one piece", withPieces(0, 3, 2).verdict(), NONE);
        due("verdict() of two against one", withPieces(0, 3, 2, 4, 2, 17, 4).verdict(), NONE);
        due("verdict() of one against two", withPieces(0, 3, 2, 16, 4, 17, 4).verdict(), NONE);
        due("verdict() of two of one side", withPieces(0, 3, 2, 4, 2).verdict(), NONE);

        due("verdict() of kings in corners", withPieces(0, 0, 2, 17, 4).verdict(), 7);
        due("verdict() of the same for black", withPieces(1, 0, 2, 17, 4).verdict(), 7);
        due("verdict() with a jump", withPieces(0, 1, 2, 4, 4).verdict(), 1);
        due("verdict() when drawn", withPieces(1, 12, 1, 16, 3).verdict(), 0);
        due("verdict() of a blocked white man", withPieces(0, 12, 1, 15, 3).verdict(), -100);
        due("verdict() of a blocked black man", withPieces(1, 5, 3, 2, 2).verdict(), -100);

        LimitedBoard x = withPieces(0, 0, 2, 17, 4);
        int[] line = {7, -6, 5, -4, 3, -2, 1, NONE};
        for (int i = 0; i < line.length; i++) {
            due("verdict() after " + i + " best moves", x.verdict(), line[i]);
            x.play(x.best(1));
        }
        x = quietEnding();
        due("over()", x.over(), 3);
        due("verdict() at QUIET 20", x.verdict(), with(board(x), x.side()).verdict());
        due("verdict() at QUIET 20 is a win", x.verdict() > 0, true);
    }

    private static void value() {
        about("promise 17");
        LimitedBoard x = withPieces(0, 0, 1, 1, 2, 12, 3, 17, 4, 16, 4);
        due("value(0)", x.value(0), 2 + 3 - 2 - 3 - 3);
        x.turn(1);
        due("value(0) for black", x.value(0), 2 + 3 + 3 - 2 - 3);
        for (int depth : new int[] {-1, 5, MIN, MAX}) {
            due("value(" + depth + ")", x.value(depth), NONE);
        }
        for (int depth = 0; depth <= 4; depth++) {
            due("value(" + depth + ") at first", new LimitedBoard().value(depth), 0);
            due("value(" + depth + ") without a piece", withPieces(1, 0, 2).value(depth), -1000);
            due("value(" + depth + ") when blocked", withPieces(0, 0, 2, 3, 3, 7, 3).value(depth), -1000);
            due("value(" + depth + ") when won", withPieces(0, 0, 2, 17, 4).value(depth), 993);
            due("value(" + depth + ") when drawn", withPieces(1, 12, 1, 16, 3).value(depth), 0);
            due("value(" + depth + ") when lost in 0", withPieces(0, 12, 1, 15, 4).value(depth), -1000);
            LimitedBoard lost = withPieces(0, 0, 2, 17, 4);
            lost.play(lost.best(1));
            due("value(" + depth + ") when lost in 6", lost.value(depth), -994);
            due("value(" + depth + ") against nothing", withPieces(0, 0, 1, 5, 2).value(depth), depth == 0 ? 5 : 1000);
            due("value(" + depth + ") at QUIET 20", quietEnding().value(depth), 993);
        }
        // One man's step, with six men of the other side far away.
        x = withPieces(0, 0, 1, 12, 3, 13, 3, 14, 3, 15, 3, 16, 3, 17, 3);
        due("value(1) of one against six", x.value(1), 2 - 12);
        x.turn(1);
        due("value(1) of six against one", x.value(1), 12 - 2);
        // A jump into an ending: the search knows at depth 1 that it is won.
        x = withPieces(0, 1, 2, 4, 3, 17, 4);
        due("value(0) before a jump", x.value(0), 3 - 2 - 3);
        due("value(1) before a jump", x.value(1), -with("000000002000000004", 1).value(0));
    }

    private static void best() {
        about("promise 18");
        for (int depth : new int[] {-1, 0, 5, MIN, MAX}) {
            due("best(" + depth + ")", new LimitedBoard().best(depth), BAD);
            due("best(" + depth + ") without a move", withPieces(0).best(depth), BAD);
        }
        for (int depth = 1; depth <= 4; depth++) {
            due("best(" + depth + ") at first", new LimitedBoard().best(depth), 0);
            due("best(" + depth + ") without a move", withPieces(0).best(depth), BAD);
            due("best(" + depth + ") of the only move", withPieces(0, 1, 2, 4, 4).best(depth), 0);
            LimitedBoard drawn = afterKingSteps(20);
            due("best(" + depth + ") when drawn", drawn.best(depth), with(board(drawn), 0).best(depth));
            due("best(" + depth + ") when drawn is a move", drawn.best(depth) >= 0, true);
            leastOfTheLeast(new LimitedBoard(), depth);
            leastOfTheLeast(with(LONG_BOARD, 0), depth);
            leastOfTheLeast(withPieces(0, 7, 2, 5, 2, 13, 4, 17, 4, 12, 3), depth);
            leastOfTheLeast(withPieces(1, 7, 2, 5, 1, 13, 4), depth);
        }
        // Of two jumps the one that takes a king leaves black less.
        LimitedBoard x = withPieces(0, 1, 1, 3, 3, 4, 4, 16, 4, 0, 1);
        due("moves()", x.moves(), 3);
        due("best(1)", x.move(x.best(1), 2), 1 << 4);
    }

    private static void leastOfTheLeast(LimitedBoard x, int depth) {
        int least = MAX;
        int chosen = BAD;
        for (int i = 0; i < x.moves(); i++) {
            x.play(i);
            int value = x.value(depth - 1);
            x.undo();
            if (value < least) {
                least = value;
                chosen = i;
            }
        }
        due("best(" + depth + ") of " + board(x), x.best(depth), chosen);
    }

    public static void main(String[] args) {
        newObject();
        begin();
        clear();
        put();
        turn();
        at();
        side();
        moves();
        move();
        play();
        undo();
        played();
        over();
        quiet();
        ways();
        verdict();
        value();
        best();
        end();
    }
}
