import java.util.Set;
import java.util.TreeSet;
import java.util.function.Consumer;
import java.util.function.Supplier;

/**
 * The boundary cases that the document names in its promises, a test for each sentence: about()
 * quotes it. Refused calls are made in many states, and compared with a twin that was not asked.
 */
public final class PromiseBoundaryTest extends Trial {
    /** How many calls one comparison of twins may need at most, so that none goes beyond 512. */
    private static final int CALLS_TO_COMPARE = 90;

    /**
     * Numbers that are not low .. high: right beside the bounds, far off, and such as become one of
     * low .. high when only their lowest bits are looked at, as shifts and casts do.
     */
    private static Set<Integer> outside(int low, int high) {
        Set<Integer> found = new TreeSet<>();
        for (int far : new int[] {1, 2, 3, 5, 18, 31, 32, 64, 100, 128, 256, 512, 65536, 1 << 24, 1 << 30}) {
            found.add(low - far);
            found.add(high + far);
        }
        for (int bits : new int[] {4, 5, 6, 7, 8, 16, 18, 23, 31}) {
            for (int number = low; number <= high; number++) {
                found.add(number + (1 << bits));
                found.add(number - (1 << bits));
            }
        }
        found.add(MIN);
        found.add(MAX);
        found.add(BAD);
        found.add(NONE);
        found.removeIf(number -> number >= low && number <= high);
        return found;
    }

    /** All that can be seen of a position, with its answers. */
    private static String sight(LimitedBoard x) {
        return board(x) + " side " + x.side() + " moves " + moves(x) + " played " + x.played()
                + " over " + x.over() + " quiet " + x.quiet() + " ways " + x.ways(2)
                + " verdict " + x.verdict() + " value " + x.value(1) + " best " + x.best(2);
    }

    private static void dueTwins(String call, LimitedBoard x, LimitedBoard twin) {
        boolean more = true;
        while (more && Math.max(x.calls(), twin.calls()) + CALLS_TO_COMPARE < LimitedBoard.MOST_CALLS) {
            due("the state after " + call, sight(x), sight(twin));
            more = twin.undo();
            due("undo() after " + call, x.undo(), more);
        }
    }

    private static LimitedBoard afterTakingBack() {
        LimitedBoard x = longGame(30);
        x.undo();
        x.undo();
        x.undo();
        return x;
    }

    private static LimitedBoard won() {
        LimitedBoard x = withPieces(0, 1, 2, 4, 4);
        x.play(0);
        return x;
    }

    private static void changesNothing(String call, Consumer<LimitedBoard> refused) {
        compare(call, refused, LimitedBoard::new);
        compare(call, refused, () -> with(EMPTY, 1));
        compare(call, refused, () -> afterKingSteps(3));
        compare(call, refused, () -> afterKingSteps(20));
        compare(call, refused, PromiseBoundaryTest::afterTakingBack);
        compare(call, refused, PromiseBoundaryTest::won);
        compare(call, refused, () -> longGame(100));
    }

    private static void compare(String call, Consumer<LimitedBoard> refused, Supplier<LimitedBoard> maker) {
        LimitedBoard x = maker.get();
        refused.accept(x);
        dueTwins(call, x, maker.get());
    }

    private static void dueFirst(String when, LimitedBoard x) {
        due("the state " + when, sight(x), FIRST + " side 0 moves 3-6 3-7 4-7 4-8 5-8 played 0"
                + " over 0 quiet 0 ways 25 verdict -2000 value 0 best 0");
        due("undo() " + when, x.undo(), false);
    }

    private static void newObject() {
        about("1: The first position; nothing was played");
        dueFirst("of a new object", new LimitedBoard());
        LimitedBoard busy = afterKingSteps(20);
        busy.verdict();
        dueFirst("of a new object beside a drawn game", new LimitedBoard());
        due("quiet() of the other one", busy.quiet(), 20);
    }

    private static void begin() {
        about("2: The first position; nothing was played");
        LimitedBoard x = new LimitedBoard();
        x.begin();
        dueFirst("after begin at once", x);
        x = with("222222222222222222", 1);
        x.begin();
        dueFirst("after a board full of kings", x);
        x = with(EMPTY, 1);
        x.begin();
        dueFirst("after an empty board", x);
        x = afterKingSteps(20);
        x.begin();
        dueFirst("after a drawn game", x);
        x = won();
        x.begin();
        dueFirst("after a game that was won", x);
        x = longGame(100);
        x.begin();
        dueFirst("after 100 moves", x);
        due("play(4) then", x.play(4), 0);
        due("played() then", x.played(), 1);
    }

    private static void clear() {
        about("3: Takes all pieces off; white is to move; nothing was played");
        String cleared = EMPTY + " side 0 moves  played 0 over 2 quiet 0 ways 0 verdict -2000 value -1000 best -1";
        LimitedBoard[] boards = {new LimitedBoard(), with("444444444444444444", 1), with(EMPTY, 1),
            afterKingSteps(19), afterKingSteps(20), won(), longGame(99), longGame(100)};
        for (LimitedBoard x : boards) {
            x.clear();
            due("the state after clear", sight(x), cleared);
            due("undo() after clear", x.undo(), false);
            due("put(9, 1)", x.put(9, 1), true);
            due("at(9)", x.at(9), 1);
            x.clear();
            due("the state after clear again", sight(x), cleared);
        }
    }

    private static void putInPlace() {
        about("4: Puts a piece on a square, in place of what stands there: 0 none, 1 .. 4");
        for (int square = 0; square < 18; square++) {
            LimitedBoard x = with(EMPTY, 0);
            for (int before = 0; before <= 4; before++) {
                for (int piece = 0; piece <= 4; piece++) {
                    if (isManAtHisEnd(square, before) || isManAtHisEnd(square, piece)) {
                        continue;
                    }
                    due("put(" + square + ", " + before + ")", x.put(square, before), true);
                    due("at(" + square + ")", x.at(square), before);
                    due("put(" + square + ", " + piece + ")", x.put(square, piece), true);
                    due("at(" + square + ")", x.at(square), piece);
                    due("verdict() with one piece at most", x.verdict(), NONE);
                }
            }
        }
        due("at a full board", board(with("112244121234344343", 0)), "112244121234344343");
    }

    /** Whether it would be a man on his crowning row. */
    private static boolean isManAtHisEnd(int square, int piece) {
        return piece == 1 && square >= 15 || piece == 3 && square <= 2;
    }

    private static void putEndsTheGame() {
        about("4: nothing was played then, and QUIET is 0");
        for (int piece = 0; piece <= 4; piece++) {
            for (int steps : new int[] {1, 19, 20}) {
                LimitedBoard x = afterKingSteps(steps);
                String before = board(x);
                due("put(7, " + piece + ")", x.put(7, piece), true);
                due("played()", x.played(), 0);
                due("quiet()", x.quiet(), 0);
                due("over()", x.over(), 0);
                due("side()", x.side(), steps % 2);
                due("undo()", x.undo(), false);
                dueBoard("beside the put", x, before.substring(0, 7) + piece + before.substring(8));
            }
        }
        LimitedBoard x = afterKingSteps(5);
        due("put of what stands there", x.put(5, 1), true);
        due("played()", x.played(), 0);
        due("quiet()", x.quiet(), 0);
        due("undo()", x.undo(), false);
        x = longGame(100);
        int side = x.side();
        String before = board(x);
        int square = before.indexOf('0');
        due("put on an empty square after 100 moves", x.put(square, 0), true);
        dueBoard("after it", x, before);
        due("side()", x.side(), side);
        due("played()", x.played(), 0);
        due("play(0) then", x.play(0) >= 0, true);
        due("played() then", x.played(), 1);
        due("undo()", x.undo(), true);
        due("undo() beyond the put", x.undo(), false);
        dueBoard("when it is taken back", x, before);
    }

    private static void putRefused() {
        about("4: false when square is not 0 .. 17");
        for (int square : outside(0, 17)) {
            for (int piece = 0; piece <= 4; piece++) {
                due("put(" + square + ", " + piece + ")", new LimitedBoard().put(square, piece), false);
            }
        }
        about("4: false when piece is not 0 .. 4");
        for (int piece : outside(0, 4)) {
            for (int square = 0; square < 18; square++) {
                due("put(" + square + ", " + piece + ")", new LimitedBoard().put(square, piece), false);
            }
        }
        about("4: false when it would be a man on his crowning row");
        for (int square = 0; square < 18; square++) {
            due("put(" + square + ", 1)", new LimitedBoard().put(square, 1), square < 15);
            due("put(" + square + ", 3)", new LimitedBoard().put(square, 3), square > 2);
            due("put(" + square + ", 2)", new LimitedBoard().put(square, 2), true);
            due("put(" + square + ", 4)", new LimitedBoard().put(square, 4), true);
            due("put(" + square + ", 0)", new LimitedBoard().put(square, 0), true);
        }
        about("4: false when more than one of these holds");
        due("put(-1, -1)", new LimitedBoard().put(-1, -1), false);
        due("put(18, 5)", new LimitedBoard().put(18, 5), false);
        due("put(MIN, MAX)", new LimitedBoard().put(MIN, MAX), false);
    }

    private static void putRefusedChangesNothing() {
        about("4: A call that is refused changes nothing");
        int[][] refused = {{-1, 0}, {18, 0}, {18, 2}, {-1, 4}, {32, 2}, {MIN, 1}, {MAX, 3}, {7, -1}, {7, 5},
            {7, MIN}, {7, MAX}, {0, 5}, {17, -1}, {15, 1}, {16, 1}, {17, 1}, {0, 3}, {1, 3}, {2, 3}, {-1, 5}};
        for (int[] wish : refused) {
            changesNothing("put(" + wish[0] + ", " + wish[1] + ")", x -> x.put(wish[0], wish[1]));
        }
    }

    private static void turn() {
        about("5: The side to move becomes this one; nothing was played then, and QUIET is 0");
        for (int side = 0; side <= 1; side++) {
            for (int steps : new int[] {0, 1, 2, 19, 20}) {
                LimitedBoard x = afterKingSteps(steps);
                String before = board(x);
                due("turn(" + side + ")", x.turn(side), true);
                due("side()", x.side(), side);
                due("played()", x.played(), 0);
                due("quiet()", x.quiet(), 0);
                due("over()", x.over(), 0);
                due("undo()", x.undo(), false);
                dueBoard("after turn", x, before);
            }
            LimitedBoard x = longGame(100);
            due("turn(" + side + ") after 100 moves", x.turn(side), true);
            due("played()", x.played(), 0);
            due("play(0)", x.play(0) >= 0, true);
        }
        about("5: false when side is not 0 or 1");
        for (int side : outside(0, 1)) {
            due("turn(" + side + ")", new LimitedBoard().turn(side), false);
        }
        about("5: A call that is refused changes nothing");
        for (int side : new int[] {-1, 2, 3, 4, 32, 256, MIN, MAX}) {
            changesNothing("turn(" + side + ")", x -> x.turn(side));
        }
    }

    private static void at() {
        about("6: BAD when there is no such square");
        for (int square : outside(0, 17)) {
            due("at(" + square + ") at first", new LimitedBoard().at(square), BAD);
            due("at(" + square + ") of a full board", with("222222222222222222", 0).at(square), BAD);
        }
        due("at(0)", new LimitedBoard().at(0), 1);
        due("at(17)", new LimitedBoard().at(17), 3);
        changesNothing("at(-1), at(18)", x -> {
            x.at(-1);
            x.at(18);
        });
    }

    private static void side() {
        about("7: The side to move");
        due("side() at first", new LimitedBoard().side(), 0);
        due("side() on an empty board", with(EMPTY, 1).side(), 1);
        due("side() of the loser", won().side(), 1);
        due("side() when drawn", afterKingSteps(20).side(), 0);
        due("side() after 99 moves", longGame(99).side(), 1);
        due("side() after 100 moves", longGame(100).side(), 0);
        changesNothing("side()", LimitedBoard::side);
    }

    private static void moves() {
        about("8: How many moves there are (also when the game is drawn)");
        LimitedBoard drawn = afterKingSteps(20);
        due("over()", drawn.over(), 3);
        dueMoves("when drawn", drawn, "0-3 5-8");
        due("moves() when won", won().moves(), 0);
        due("moves() on an empty board", with(EMPTY, 0).moves(), 0);
        due("moves() on a full board", with("112244121234344343", 0).moves(), 0);
        due("moves() after 100 moves", longGame(100).moves() > 0, true);
        // Kings in rows that are not neighbours, so that hardly a square is in their way.
        dueMoves("of many kings", with("222000000222000000", 0),
                "0-3 1-3 1-4 2-4 2-5 9-6 9-7 9-12 9-13 10-7 10-8 10-13 10-14 11-8 11-14");
        dueMoves("of many kings in the middle", withPieces(1, 3, 4, 4, 4, 5, 4, 12, 4, 13, 4, 14, 4),
                "3-0 3-1 3-6 3-7 4-1 4-2 4-7 4-8 5-2 5-8 12-9 12-15 13-9 13-10 13-15 13-16 14-10 14-11 14-16 14-17");
        changesNothing("moves()", LimitedBoard::moves);
    }

    private static void moveRefused() {
        about("9: BAD when there is no such move");
        for (int what = 0; what <= 2; what++) {
            for (int i : outside(0, 4)) {
                due("move(" + i + ", " + what + ") of 5", new LimitedBoard().move(i, what), BAD);
            }
            for (int i : outside(0, 0)) {
                due("move(" + i + ", " + what + ") of 1", withPieces(0, 0, 2).move(i, what), BAD);
            }
            for (int i : outside(0, -1)) {
                due("move(" + i + ", " + what + ") of none", with(EMPTY, 0).move(i, what), BAD);
            }
            due("move(0, " + what + ") of none", with(EMPTY, 1).move(0, what), BAD);
            due("move(0, " + what + ") when won", won().move(0, what), BAD);
            due("move(2, " + what + ") when drawn", afterKingSteps(20).move(2, what), BAD);
        }
        about("9: BAD when what is not 0 .. 2");
        for (int what : outside(0, 2)) {
            for (int i = -1; i <= 5; i++) {
                due("move(" + i + ", " + what + ")", new LimitedBoard().move(i, what), BAD);
            }
        }
        about("9: Of move i: where it begins, where it ends, the sum over the taken pieces");
        LimitedBoard x = new LimitedBoard();
        due("move(4, 0) of the last one", x.move(4, 0), 5);
        due("move(4, 1) of the last one", x.move(4, 1), 8);
        due("move(4, 2) of the last one", x.move(4, 2), 0);
        // After a longer list, what was on it is no move of a shorter one.
        x.moves();
        x.clear();
        x.put(0, 2);
        due("move(0, 1)", x.move(0, 1), 3);
        due("move(1, 1)", x.move(1, 1), BAD);
        due("play(1)", x.play(1), BAD);
        x = withPieces(1, 12, 1, 13, 1, 14, 1, 16, 4, 17, 4);
        due("move(0, 2)", x.move(0, 2), sum(13));
        due("move(1, 2)", x.move(1, 2), sum(14));
        changesNothing("move(-1, 0), move(99, 1), move(0, 3)", y -> {
            y.move(-1, 0);
            y.move(99, 1);
            y.move(0, 3);
        });
    }

    private static void playTakes() {
        about("10: Plays move i: how many pieces it takes");
        due("play(0) of a step", new LimitedBoard().play(0), 0);
        due("play(4), the last one", new LimitedBoard().play(4), 0);
        due("play(0) that takes one", withPieces(0, 0, 1, 3, 3).play(0), 1);
        due("play(0) that takes two", withPieces(0, 0, 1, 3, 3, 10, 3).play(0), 2);
        due("play(0) that takes three", withPieces(0, 1, 2, 3, 3, 9, 4, 10, 3).play(0), 3);
        due("play(0) that takes four", withPieces(0, 1, 2, 3, 3, 4, 3, 9, 3, 10, 3).play(0), 4);
    }

    private static void playWhenOver() {
        about("10: BAD when the game is over");
        LimitedBoard[] over = {with(EMPTY, 0), with(EMPTY, 1), won(), afterKingSteps(20), blockedAtQuiet20(),
            with("112244121234344343", 0), withPieces(0, 12, 1, 15, 4)};
        for (LimitedBoard x : over) {
            int played = x.played();
            for (int i = -1; i <= 3; i++) {
                due("play(" + i + ") when over() is " + x.over(), x.play(i), BAD);
            }
            due("played()", x.played(), played);
        }
    }

    private static void playNoSuchMove() {
        about("10: BAD when there is no such move");
        for (int i : outside(0, 4)) {
            due("play(" + i + ") of 5", new LimitedBoard().play(i), BAD);
        }
        for (int i : outside(0, 0)) {
            due("play(" + i + ") of 1", withPieces(0, 0, 2).play(i), BAD);
        }
        for (int i : new int[] {-1, 99, BAD, NONE, MIN, MAX}) {
            changesNothing("play(" + i + ")", x -> x.play(i));
        }
    }

    private static void playAfter100() {
        about("10: BAD when 100 moves were played");
        LimitedBoard x = longGame(99);
        due("over()", x.over(), 0);
        due("the 100th move", x.play(LONG_GAME.charAt(99) - 'a'), 0);
        due("over()", x.over(), 0);
        for (int i = 0; i < x.moves(); i++) {
            due("play(" + i + ") after 100", x.play(i), BAD);
        }
        due("play(-1) after 100", x.play(-1), BAD);
        due("play(99) after 100", x.play(99), BAD);
        due("played()", x.played(), 100);
        due("undo()", x.undo(), true);
        due("played()", x.played(), 99);
        due("play(0) as the 100th", x.play(0) >= 0, true);
        due("played()", x.played(), 100);
        due("play(0) after 100 again", x.play(0), BAD);
        compare("play(0) after 100", y -> y.play(0), () -> longGame(100));
        LimitedBoard full = longGame(100);
        LimitedBoard fresh = with(board(full), full.side());
        for (int depth = 1; depth <= 4; depth++) {
            due("value(" + depth + ") after 100", full.value(depth), fresh.value(depth));
            due("best(" + depth + ") after 100", full.best(depth), fresh.best(depth));
        }
    }

    private static void undo() {
        about("11: false when none was played");
        due("undo() at first", new LimitedBoard().undo(), false);
        due("undo() on an empty board", with(EMPTY, 0).undo(), false);
        LimitedBoard x = new LimitedBoard();
        x.play(-1);
        due("undo() after a refused move", x.undo(), false);
        x.play(0);
        due("undo() of one", x.undo(), true);
        due("undo() once more", x.undo(), false);
        dueFirst("after it", x);
        compare("undo()", LimitedBoard::undo, LimitedBoard::new);
        compare("undo()", LimitedBoard::undo, () -> with(LONG_BOARD, 1));

        about("11: Takes the latest move that was played back (QUIET too): true");
        x = afterKingSteps(4);
        go(x, 5, 8);
        due("quiet() after a man's step", x.quiet(), 0);
        due("undo()", x.undo(), true);
        due("quiet() when it is taken back", x.quiet(), 4);
        dueTwins("a step that was taken back", x, afterKingSteps(4));
        x = afterKingSteps(20);
        due("undo() when drawn", x.undo(), true);
        dueTwins("undo() when drawn", x, afterKingSteps(19));
        x = won();
        due("undo() when won", x.undo(), true);
        dueTwins("undo() when won", x, withPieces(0, 1, 2, 4, 4));
        x = longGame(100);
        for (int i = 0; i < 100; i++) {
            due("undo() of 100", x.undo(), true);
        }
        due("undo() when all 100 are taken back", x.undo(), false);
        dueTwins("taking all back", x, with(LONG_BOARD, 0));

        about("11: another move after one was taken back");
        x = new LimitedBoard();
        x.play(0);
        x.play(0);
        x.undo();
        x.undo();
        x.play(4);
        LimitedBoard other = new LimitedBoard();
        other.play(4);
        dueTwins("another move", x, other);

        about("11: a crowning that is taken back");
        x = withPieces(0, 12, 1, 5, 3);
        go(x, 12, 15);
        x.undo();
        due("at(12)", x.at(12), 1);
        due("at(15)", x.at(15), 0);
    }

    private static void played() {
        about("12: How many moves were played, and not taken back");
        due("played() at first", new LimitedBoard().played(), 0);
        due("played() after 100", longGame(100).played(), 100);
        LimitedBoard x = new LimitedBoard();
        x.undo();
        due("played() after a refused undo", x.played(), 0);
        x.play(5);
        due("played() after a refused move", x.played(), 0);
        x.play(0);
        x.put(18, 0);
        x.turn(2);
        due("played() after other refusals", x.played(), 1);
        x.begin();
        due("played() after begin", x.played(), 0);
    }

    private static void over() {
        about("13: 0 when the game goes on, 1 when white has won, 2 when black has, 3 when it is drawn");
        due("over() at first", new LimitedBoard().over(), 0);
        due("over() when white took the last one", won().over(), 1);
        LimitedBoard x = withPieces(1, 1, 2, 4, 4, 17, 3);
        due("over() of black with moves", x.over(), 0);
        x = withPieces(1, 16, 4, 13, 1);
        x.play(0);
        due("over() when black took the last one", x.over(), 2);
        due("over() at QUIET 20", afterKingSteps(20).over(), 3);
        due("over() at QUIET 19", afterKingSteps(19).over(), 0);
        due("over() blocked at QUIET 20", blockedAtQuiet20().over(), 1);
        due("over() after 100 moves", longGame(100).over(), 0);
        x = afterKingSteps(20);
        x.turn(0);
        due("over() at QUIET 20, then turn", x.over(), 0);
    }

    private static void quiet() {
        about("14: QUIET");
        due("quiet() at first", new LimitedBoard().quiet(), 0);
        LimitedBoard x = afterKingSteps(20);
        x.play(0);
        due("quiet() after a move that was refused", x.quiet(), 20);
        x.put(0, 9);
        x.turn(-1);
        x.move(0, 0);
        x.ways(4);
        x.value(4);
        x.best(4);
        due("quiet() after questions and refusals", x.quiet(), 20);
        due("quiet() when won", won().quiet(), 0);
    }

    private static void ways() {
        about("15: BAD when depth is not 0 .. 4");
        for (int depth : outside(0, 4)) {
            due("ways(" + depth + ")", new LimitedBoard().ways(depth), BAD);
            due("ways(" + depth + ") on an empty board", with(EMPTY, 0).ways(depth), BAD);
        }
        due("ways(0), the least depth", new LimitedBoard().ways(0), 1);
        due("ways(4), the greatest depth", new LimitedBoard().ways(4), 369);

        about("15: In how many ways so many moves can be played from here");
        LimitedBoard[] over = {with(EMPTY, 0), with(EMPTY, 1), won(), blockedAtQuiet20()};
        for (LimitedBoard x : over) {
            due("ways(0) without a move", x.ways(0), 1);
            for (int depth = 1; depth <= 4; depth++) {
                due("ways(" + depth + ") without a move", x.ways(depth), 0);
            }
        }
        LimitedBoard x = withPieces(0, 1, 2, 4, 4);
        due("ways(1) of a winning jump", x.ways(1), 1);
        due("ways(2) of a winning jump", x.ways(2), 0);
        due("ways(2) of king against king", withPieces(0, 0, 2, 17, 4).ways(2), 1);
        due("ways(4) of king against king", withPieces(0, 0, 2, 17, 4).ways(4), 16);

        about("15: QUIET does not count");
        for (int steps : new int[] {17, 18, 19, 20}) {
            x = afterKingSteps(steps);
            LimitedBoard fresh = with(board(x), x.side());
            for (int depth = 0; depth <= 4; depth++) {
                due("ways(" + depth + ") at QUIET " + steps, x.ways(depth), fresh.ways(depth));
            }
            due("ways(4) at QUIET " + steps + " is above 0", x.ways(4) > 0, true);
        }
        changesNothing("ways(-1), ways(4), ways(5)", y -> {
            y.ways(-1);
            y.ways(4);
            y.ways(5);
        });
    }

    private static void verdict() {
        about("16: NONE when not (each side has one piece)");
        due("verdict() of 0 and 0", with(EMPTY, 0).verdict(), NONE);
        due("verdict() of 1 and 0", withPieces(0, 7, 2).verdict(), NONE);
        due("verdict() of 0 and 1", withPieces(0, 7, 4).verdict(), NONE);
        due("verdict() of 2 and 0", withPieces(0, 7, 2, 8, 1).verdict(), NONE);
        due("verdict() of 0 and 2", withPieces(1, 7, 4, 8, 3).verdict(), NONE);
        due("verdict() of 2 and 1", withPieces(0, 7, 2, 8, 1, 17, 4).verdict(), NONE);
        due("verdict() of 1 and 2", withPieces(0, 7, 2, 16, 3, 17, 4).verdict(), NONE);
        due("verdict() of 2 and 2", withPieces(0, 0, 2, 1, 1, 16, 3, 17, 4).verdict(), NONE);
        due("verdict() of 6 and 6", new LimitedBoard().verdict(), NONE);
        due("verdict() of a full board", with("112244121234344343", 0).verdict(), NONE);
        due("verdict() when the last one was taken", won().verdict(), NONE);

        about("16: n when it is won in n, -n when it is lost in n and n is above 0");
        due("verdict() won in 1", withPieces(0, 1, 2, 4, 4).verdict(), 1);
        due("verdict() won in 9, the longest", withPieces(0, 14, 1, 16, 3).verdict(), 9);
        due("verdict() won in 9 for black", withPieces(1, 3, 3, 1, 1).verdict(), 9);
        due("verdict() lost in 2", withPieces(0, 0, 1, 1, 4).verdict(), -2);
        due("verdict() lost in 8, the longest", withPieces(0, 1, 1, 0, 4).verdict(), -8);
        due("verdict() lost in 8 for black", withPieces(1, 16, 3, 17, 2).verdict(), -8);

        about("16: -100 when it is lost in 0, 0 when it is drawn");
        due("verdict() of a blocked man", withPieces(0, 12, 1, 15, 4).verdict(), -100);
        due("verdict() of a blocked black man", withPieces(1, 5, 3, 2, 1).verdict(), -100);
        due("verdict() when drawn", withPieces(0, 0, 1, 4, 3).verdict(), 0);

        about("16: a verdict after a jump that leaves one piece on each side");
        LimitedBoard x = withPieces(0, 1, 2, 4, 3, 17, 4);
        due("verdict() before the jump", x.verdict(), NONE);
        x.play(0);
        due("verdict() after the jump", x.verdict(), with("000000002000000004", 1).verdict());
        x.undo();
        due("verdict() when it is taken back", x.verdict(), NONE);
        x.put(4, 0);
        due("verdict() when a piece is put away", x.verdict(), with("020000000000000004", 0).verdict());
        changesNothing("verdict()", LimitedBoard::verdict);
    }

    private static void value() {
        about("17: NONE when depth is not 0 .. 4");
        for (int depth : outside(0, 4)) {
            due("value(" + depth + ")", new LimitedBoard().value(depth), NONE);
            due("value(" + depth + ") on an empty board", with(EMPTY, 0).value(depth), NONE);
            due("value(" + depth + ") of an ending", withPieces(0, 0, 2, 17, 4).value(depth), NONE);
            due("value(" + depth + ") when drawn", afterKingSteps(20).value(depth), NONE);
        }
        due("value(0), the least depth", withPieces(0, 0, 1, 1, 2, 17, 4).value(0), 2);
        due("value(4), the greatest depth", new LimitedBoard().value(4), 0);

        about("17: The value of this position at a depth");
        LimitedBoard[] lost = {with(EMPTY, 0), with(EMPTY, 1), won(), blockedAtQuiet20()};
        for (LimitedBoard x : lost) {
            for (int depth = 0; depth <= 4; depth++) {
                due("value(" + depth + ") without a move", x.value(depth), -1000);
            }
        }
        for (int depth = 0; depth <= 4; depth++) {
            LimitedBoard x = afterKingSteps(20);
            due("value(" + depth + ") at QUIET 20", x.value(depth), with(board(x), 0).value(depth));
            due("value(" + depth + ") of an ending at QUIET 20", quietEnding().value(depth), 993);
        }
        changesNothing("value(-1), value(4), value(5)", x -> {
            x.value(-1);
            x.value(4);
            x.value(5);
        });
    }

    private static void best() {
        about("18: BAD when there is no move");
        LimitedBoard[] lost = {with(EMPTY, 0), with(EMPTY, 1), won(), blockedAtQuiet20(),
            withPieces(0, 12, 1, 15, 4), with("112244121234344343", 0)};
        for (LimitedBoard x : lost) {
            for (int depth = -1; depth <= 5; depth++) {
                due("best(" + depth + ") without a move", x.best(depth), BAD);
            }
        }
        about("18: BAD when depth is not 1 .. 4");
        for (int depth : outside(1, 4)) {
            due("best(" + depth + ")", new LimitedBoard().best(depth), BAD);
            due("best(" + depth + ") of the only move", withPieces(0, 0, 2, 17, 4).best(depth), BAD);
        }
        about("18: The least move whose position has the least value at depth - 1");
        for (int depth = 1; depth <= 4; depth++) {
            String call = "best(" + depth + ")";
            due(call + " when all are alike", new LimitedBoard().best(depth), 0);
            due(call + " of the only move", withPieces(0, 0, 2, 17, 4).best(depth), 0);
            due(call + " of wins in 7, 9, 3 and 9", withPieces(0, 8, 2, 16, 3).best(depth), 2);
            due(call + " of a win behind others", withPieces(0, 4, 2, 5, 3).best(depth), 1);
            due(call + " of a win that comes last", withPieces(0, 7, 2, 16, 4).best(depth), 3);
            due(call + " of losses in 2, 4, 4 and 4", withPieces(0, 14, 2, 7, 4).best(depth), 1);
            due(call + " of losses in 4, 4, 4 and 2", withPieces(0, 3, 2, 4, 4).best(depth), 0);
            due(call + " of a draw that comes last", withPieces(0, 4, 1, 15, 3).best(depth), 1);
            due(call + " against nobody", withPieces(0, 0, 1, 5, 2).best(depth), 0);
            LimitedBoard x = afterKingSteps(20);
            due(call + " when drawn", x.best(depth), with(board(x), 0).best(depth));
            due(call + " when drawn is a move", x.best(depth) >= 0, true);
            x = longGame(100);
            due(call + " after 100 moves", x.best(depth), with(board(x), x.side()).best(depth));
        }
        dueEachDepth("000002004010040000", 1, "0 2 4 3", "1 1 1 3 0");
        dueEachDepth("000000342000424200", 0, "0 1 2 3", "-2 -2 -2 1 -2");
        dueEachDepth("001300030023000020", 0, "0 1 5 3", "2 2 1 3 1");
        changesNothing("best(0), best(4), best(5)", y -> {
            y.best(0);
            y.best(4);
            y.best(5);
        });
    }

    /** Positions in which each depth has its own best move, so that none stands for another. */
    private static void dueEachDepth(String board, int side, String best, String values) {
        LimitedBoard x = with(board, side);
        due("best(1) to best(4) of " + board, x.best(1) + " " + x.best(2) + " " + x.best(3) + " " + x.best(4), best);
        due("value(0) to value(4) of " + board, x.value(0) + " " + x.value(1) + " " + x.value(2) + " "
                + x.value(3) + " " + x.value(4), values);
    }

    public static void main(String[] args) {
        newObject();
        begin();
        clear();
        putInPlace();
        putEndsTheGame();
        putRefused();
        putRefusedChangesNothing();
        turn();
        at();
        side();
        moves();
        moveRefused();
        playTakes();
        playWhenOver();
        playNoSuchMove();
        playAfter100();
        undo();
        played();
        over();
        quiet();
        ways();
        verdict();
        value();
        best();
        end();
    }
}
