import java.util.ArrayList;
import java.util.HashMap;
import java.util.List;
import java.util.Map;
import java.util.Random;
import java.util.TreeMap;

/**
 * Compares the program with a slow model that is written from the document's words alone: boards
 * as texts, rows and columns, full searches. Random positions, random games and all endings.
 */
public final class ModelTest extends Trial {
    private static final String PIECES = ".wWbB";
    private static final Map<String, Integer> VERDICTS = new HashMap<>();

    /** A move of the model: where it begins and ends, what it takes, and the board behind it. */
    private static final class Way {
        final int begin;
        final int end;
        final int taken;
        final String after;

        Way(String board, int begin, int end, int taken) {
            this.begin = begin;
            this.end = end;
            this.taken = taken;
            char piece = board.charAt(begin);
            char[] next = board.toCharArray();
            next[begin] = '.';
            for (int s = 0; s < 18; s++) {
                if ((taken >> s & 1) == 1) {
                    next[s] = '.';
                }
            }
            next[end] = piece == 'w' && end / 3 == 5 ? 'W' : piece == 'b' && end / 3 == 0 ? 'B' : piece;
            next[18] = board.charAt(18) == '0' ? '1' : '0';
            this.after = new String(next);
        }

        String order() {
            return String.format("%02d %02d %06d", begin, end, taken);
        }
    }

    private static int row(int square) {
        return square / 3;
    }

    private static int column(int square) {
        return 2 * (square % 3) + row(square) % 2;
    }

    private static int squareAt(int row, int column) {
        for (int s = 0; s < 18; s++) {
            if (row(s) == row && column(s) == column) {
                return s;
            }
        }
        return -1;
    }

    private static boolean belongs(char piece, char side) {
        return (side == '0' ? "wW" : "bB").indexOf(piece) >= 0;
    }

    private static boolean mayHead(char piece, int up) {
        return piece == 'W' || piece == 'B' || up == (piece == 'w' ? 1 : -1);
    }

    private static void leaps(String board, int begin, int here, int taken, List<Way> found) {
        char piece = board.charAt(begin);
        boolean more = false;
        for (int up = -1; up <= 1; up += 2) {
            for (int right = -1; right <= 1; right += 2) {
                int over = squareAt(row(here) + up, column(here) + right);
                int goal = squareAt(row(here) + 2 * up, column(here) + 2 * right);
                if (!mayHead(piece, up) || over < 0 || goal < 0 || (taken >> over & 1) == 1) {
                    continue;
                }
                boolean prey = belongs(board.charAt(over), board.charAt(18) == '0' ? '1' : '0');
                if (prey && (goal == begin || board.charAt(goal) == '.')) {
                    more = true;
                    leaps(board, begin, goal, taken | 1 << over, found);
                }
            }
        }
        if (!more && taken != 0) {
            found.add(new Way(board, begin, here, taken));
        }
    }

    private static void steps(String board, int begin, List<Way> found) {
        for (int goal = 0; goal < 18; goal++) {
            int up = row(goal) - row(begin);
            boolean near = Math.abs(up) == 1 && Math.abs(column(goal) - column(begin)) == 1;
            if (near && board.charAt(goal) == '.' && mayHead(board.charAt(begin), up)) {
                found.add(new Way(board, begin, goal, 0));
            }
        }
    }

    private static List<Way> ways(String board) {
        List<Way> found = new ArrayList<>();
        for (int s = 0; s < 18; s++) {
            if (belongs(board.charAt(s), board.charAt(18))) {
                leaps(board, s, s, 0, found);
            }
        }
        for (int s = 0; s < 18 && (found.isEmpty() || found.get(0).taken == 0); s++) {
            if (belongs(board.charAt(s), board.charAt(18))) {
                steps(board, s, found);
            }
        }
        TreeMap<String, Way> sorted = new TreeMap<>();
        for (Way way : found) {
            sorted.put(way.order(), way);
        }
        return new ArrayList<>(sorted.values());
    }

    private static int count(String board, int depth) {
        int sum = depth == 0 ? 1 : 0;
        if (depth > 0) {
            for (Way way : ways(board)) {
                sum += count(way.after, depth - 1);
            }
        }
        return sum;
    }

    private static int number(String board, String kinds) {
        int sum = 0;
        for (int s = 0; s < 18; s++) {
            sum += kinds.indexOf(board.charAt(s)) >= 0 ? 1 : 0;
        }
        return sum;
    }

    private static boolean oneEach(String board) {
        return number(board, "wW") == 1 && number(board, "bB") == 1;
    }

    private static int value(String board, int depth) {
        if (oneEach(board)) {
            int verdict = VERDICTS.get(board);
            return verdict == -100 ? -1000 : verdict > 0 ? 1000 - verdict : verdict < 0 ? -verdict - 1000 : 0;
        }
        List<Way> ways = ways(board);
        if (ways.isEmpty()) {
            return -1000;
        }
        if (depth == 0) {
            int white = 2 * number(board, "w") + 3 * number(board, "W");
            int black = 2 * number(board, "b") + 3 * number(board, "B");
            return board.charAt(18) == '0' ? white - black : black - white;
        }
        int greatest = Integer.MIN_VALUE;
        for (Way way : ways) {
            greatest = Math.max(greatest, -value(way.after, depth - 1));
        }
        return greatest;
    }

    private static int best(String board, int depth) {
        List<Way> ways = ways(board);
        int least = Integer.MAX_VALUE;
        int chosen = -1;
        for (int i = 0; i < ways.size(); i++) {
            int value = value(ways.get(i).after, depth - 1);
            if (value < least) {
                least = value;
                chosen = i;
            }
        }
        return chosen;
    }

    private static boolean manOnCrowningRow(String board) {
        return board.substring(15, 18).indexOf('w') >= 0 || board.substring(0, 3).indexOf('b') >= 0;
    }

    private static List<String> endings() {
        List<String> all = new ArrayList<>();
        for (int mine = 0; mine < 36 * 36 * 2; mine++) {
            int white = mine % 18;
            int black = mine / 18 % 18;
            char[] board = "..................0".toCharArray();
            board[white] = mine / 324 % 2 == 0 ? 'w' : 'W';
            board[black] = mine / 648 % 2 == 0 ? 'b' : 'B';
            board[18] = mine / 1296 == 0 ? '0' : '1';
            if (white != black && !manOnCrowningRow(new String(board))) {
                all.add(new String(board));
            }
        }
        return all;
    }

    /** Step n finds what is won or lost in n from what the steps before it found. */
    private static void judgeEndings() {
        Map<String, Integer> won = new HashMap<>();
        Map<String, Integer> lost = new HashMap<>();
        List<String> open = endings();
        boolean more = true;
        for (int n = 0; more; n++) {
            Map<String, Integer> newWon = new HashMap<>();
            Map<String, Integer> newLost = new HashMap<>();
            for (String board : open) {
                List<Way> ways = ways(board);
                int leastLost = Integer.MAX_VALUE;
                int greatestWon = -1;
                boolean allWon = true;
                for (Way way : ways) {
                    Integer m = ways(way.after).isEmpty() ? Integer.valueOf(0) : lost.get(way.after);
                    if (m != null && n > m) {
                        leastLost = Math.min(leastLost, m);
                    }
                    allWon &= won.containsKey(way.after);
                    greatestWon = Math.max(greatestWon, won.getOrDefault(way.after, -1));
                }
                if (leastLost != Integer.MAX_VALUE) {
                    newWon.put(board, leastLost + 1);
                } else if (allWon) {
                    newLost.put(board, greatestWon + 1);
                }
            }
            won.putAll(newWon);
            lost.putAll(newLost);
            open.removeAll(newWon.keySet());
            open.removeAll(newLost.keySet());
            more = n == 0 || !newWon.isEmpty() || !newLost.isEmpty();
        }
        for (String board : endings()) {
            int n = lost.getOrDefault(board, -1);
            VERDICTS.put(board, won.containsKey(board) ? won.get(board) : n == 0 ? -100 : n > 0 ? -n : 0);
        }
    }

    private static LimitedBoard set(String board) {
        about(board);
        LimitedBoard x = new LimitedBoard();
        x.clear();
        for (int s = 0; s < 18; s++) {
            due("put", x.put(s, PIECES.indexOf(board.charAt(s))), true);
        }
        due("turn", x.turn(board.charAt(18) - '0'), true);
        return x;
    }

    private static void compareBoard(LimitedBoard x, String board) {
        for (int s = 0; s < 18; s++) {
            due("at(" + s + ")", x.at(s), PIECES.indexOf(board.charAt(s)));
        }
        due("side()", x.side(), board.charAt(18) - '0');
        List<Way> ways = ways(board);
        due("moves()", x.moves(), ways.size());
        for (int i = 0; i < ways.size(); i++) {
            due("move(" + i + ", 0)", x.move(i, 0), ways.get(i).begin);
            due("move(" + i + ", 1)", x.move(i, 1), ways.get(i).end);
            due("move(" + i + ", 2)", x.move(i, 2), ways.get(i).taken);
        }
        due("move(" + ways.size() + ", 0)", x.move(ways.size(), 0), -1);
        due("verdict()", x.verdict(), oneEach(board) ? VERDICTS.get(board) : -2000);
    }

    private static void compareSearch(LimitedBoard x, String board, int deepest) {
        for (int depth = 0; depth <= deepest; depth++) {
            due("ways(" + depth + ")", x.ways(depth), count(board, depth));
            due("value(" + depth + ")", x.value(depth), value(board, depth));
            due("best(" + depth + ")", x.best(depth), depth == 0 ? -1 : best(board, depth));
        }
    }

    private static String randomBoard(Random random, int full) {
        char[] board = "..................0".toCharArray();
        for (int s = 0; s < 18; s++) {
            char piece = random.nextInt(18) < full ? "wWbB".charAt(random.nextInt(4)) : '.';
            boolean crowned = piece == 'w' && s >= 15 || piece == 'b' && s < 3;
            board[s] = crowned ? Character.toUpperCase(piece) : piece;
        }
        board[18] = random.nextBoolean() ? '0' : '1';
        return new String(board);
    }

    private static int over(String board, int quiet) {
        if (ways(board).isEmpty()) {
            return board.charAt(18) == '0' ? 2 : 1;
        }
        return quiet == 20 ? 3 : 0;
    }

    /** Plays and takes back at random, as long as the object may be used. */
    private static void compareGame(LimitedBoard x, String first, Random random) {
        List<String> boards = new ArrayList<>(List.of(first));
        List<Integer> quiets = new ArrayList<>(List.of(0));
        while (x.calls() + 4 <= LimitedBoard.MOST_CALLS) {
            int played = boards.size() - 1;
            String board = boards.get(played);
            int quiet = quiets.get(played);
            about(board);
            if (random.nextInt(12) == 0) {
                due("undo()", x.undo(), played > 0);
                if (played > 0) {
                    boards.remove(played);
                    quiets.remove(played);
                }
            } else {
                List<Way> ways = ways(board);
                int i = random.nextInt(ways.size() + 1);
                boolean refused = over(board, quiet) != 0 || i == ways.size() || played == 100;
                due("play(" + i + ")", x.play(i), refused ? -1 : Integer.bitCount(ways.get(i).taken));
                if (!refused) {
                    Way way = ways.get(i);
                    boolean kingStep = "WB".indexOf(board.charAt(way.begin)) >= 0 && way.taken == 0;
                    boards.add(way.after);
                    quiets.add(kingStep ? quiet + 1 : 0);
                }
            }
            played = boards.size() - 1;
            due("played()", x.played(), played);
            ask(x, boards.get(played), quiets.get(played), random);
            ask(x, boards.get(played), quiets.get(played), random);
        }
    }

    private static void ask(LimitedBoard x, String board, int quiet, Random random) {
        about(board + " at QUIET " + quiet);
        int depth = random.nextInt(3);
        int square = random.nextInt(18);
        switch (random.nextInt(8)) {
            case 0 -> due("at(" + square + ")", x.at(square), PIECES.indexOf(board.charAt(square)));
            case 1 -> due("side()", x.side(), board.charAt(18) - '0');
            case 2 -> due("moves()", x.moves(), ways(board).size());
            case 3 -> due("over()", x.over(), over(board, quiet));
            case 4 -> due("quiet()", x.quiet(), quiet);
            case 5 -> due("ways(" + depth + ")", x.ways(depth), count(board, depth));
            case 6 -> due("value(" + depth + ")", x.value(depth), value(board, depth));
            default -> due("best(" + depth + ")", x.best(depth), depth == 0 ? -1 : best(board, depth));
        }
    }

    public static void main(String[] args) {
        judgeEndings();
        for (String board : VERDICTS.keySet()) {
            LimitedBoard x = set(board);
            compareBoard(x, board);
            compareSearch(x, board, 2);
        }
        Random random = new Random(6);
        for (int i = 0; i < 1500; i++) {
            String board = randomBoard(random, 1 + i % 18);
            LimitedBoard x = set(board);
            compareBoard(x, board);
            compareSearch(x, board, i % 30 == 0 ? 4 : 2);
        }
        for (int i = 0; i < 300; i++) {
            String board = randomBoard(random, 3 + i % 9);
            compareGame(set(board), board, random);
            compareGame(new LimitedBoard(), "wwwwww......bbbbbb0", random);
        }
        end();
    }
}
