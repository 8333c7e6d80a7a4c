import java.lang.management.ManagementFactory;
import java.lang.reflect.Array;
import java.lang.reflect.Field;
import java.lang.reflect.Modifier;
import java.util.ArrayDeque;
import java.util.Deque;
import java.util.IdentityHashMap;
import java.util.Map;

/**
 * The room: all calls of one run share some 600,000 objects and 7.3 million fields and elements.
 * What an object holds is counted one by one, and what its calls make is measured in bytes.
 */
public final class RoomTest extends Trial {
    /** So that 500 objects, each with its endings judged, still fit into one room. */
    private static final int MOST_OBJECTS = 600_000 / 500;
    private static final int MOST_CELLS = 7_300_000 / 500;
    /** One small object made in each of 480 calls would come to more. */
    private static final int MOST_BYTES_OF_CALLS = 1_000;
    /** No cell takes more than four bytes here; what is made and not kept needs room too. */
    private static final int MOST_BYTES_AT_FIRST = 4 * MOST_CELLS;

    private static final com.sun.management.ThreadMXBean METER =
            (com.sun.management.ThreadMXBean) ManagementFactory.getThreadMXBean();

    /** Kept so that no call can be left out as useless. */
    private static int answers = 0;

    private static long objects;
    private static long cells;

    private static void count(Object root) throws IllegalAccessException {
        objects = 0;
        cells = 0;
        Map<Object, Boolean> seen = new IdentityHashMap<>();
        Deque<Object> open = new ArrayDeque<>();
        reach(root, seen, open);
        while (!open.isEmpty()) {
            Object next = open.pop();
            objects++;
            if (next.getClass().isArray()) {
                countElements(next, seen, open);
            } else {
                countFields(next, seen, open);
            }
        }
    }

    private static void reach(Object found, Map<Object, Boolean> seen, Deque<Object> open) {
        if (found != null && seen.put(found, true) == null) {
            open.push(found);
        }
    }

    private static void countElements(Object array, Map<Object, Boolean> seen, Deque<Object> open) {
        int length = Array.getLength(array);
        cells += length;
        for (int i = 0; i < length && !array.getClass().getComponentType().isPrimitive(); i++) {
            reach(Array.get(array, i), seen, open);
        }
    }

    private static void countFields(Object object, Map<Object, Boolean> seen, Deque<Object> open)
            throws IllegalAccessException {
        for (Field field : object.getClass().getDeclaredFields()) {
            if (Modifier.isStatic(field.getModifiers())) {
                continue;
            }
            cells++;
            if (!field.getType().isPrimitive()) {
                field.setAccessible(true);
                reach(field.get(object), seen, open);
            }
        }
    }

    /** 16 calls, the dearest ones among them. */
    private static void callAll(JumpBoard board) {
        answers += board.ways(4) + board.value(4) + board.best(4) + board.verdict();
        answers += board.play(board.moves() - 1) + board.move(0, 2) + board.over() + board.quiet();
        answers += board.at(3) + board.side() + board.played();
        board.undo();
        board.turn(board.side());
        board.put(1, 2);
    }

    private static JumpBoard newEnding() {
        JumpBoard board = new JumpBoard();
        board.clear();
        board.put(1, 2);
        board.put(17, 4);
        answers += board.verdict();
        return board;
    }

    /** A game after an ending was judged, so that all is made that is ever made. */
    private static JumpBoard newGame() {
        JumpBoard board = newEnding();
        board.begin();
        return board;
    }

    private static void keptRoom() throws IllegalAccessException {
        about("the room of what is kept");
        JumpBoard board = newGame();
        for (int i = 0; i < 30; i++) {
            callAll(board);
        }
        count(board);
        System.out.println("an object keeps " + objects + " objects, " + cells + " fields and elements");
        due("at most " + MOST_OBJECTS + " objects", objects <= MOST_OBJECTS, true);
        due("at most " + MOST_CELLS + " fields and elements", cells <= MOST_CELLS, true);
    }

    private static void roomOfCalls(String where, JumpBoard board) {
        about("the room of what calls make in " + where);
        callAll(board);
        METER.getCurrentThreadAllocatedBytes();
        long before = METER.getCurrentThreadAllocatedBytes();
        for (int i = 0; i < 30; i++) {
            callAll(board);
        }
        long made = METER.getCurrentThreadAllocatedBytes() - before;
        System.out.println("480 calls in " + where + " make " + made + " bytes");
        due("at most " + MOST_BYTES_OF_CALLS + " bytes", made <= MOST_BYTES_OF_CALLS, true);
    }

    private static void roomOfJudging() {
        about("the room of an ending's first verdict");
        newEnding();
        METER.getCurrentThreadAllocatedBytes();
        long before = METER.getCurrentThreadAllocatedBytes();
        newEnding();
        long made = METER.getCurrentThreadAllocatedBytes() - before;
        System.out.println("a new object and its first verdict make " + made + " bytes");
        due("at most " + MOST_BYTES_AT_FIRST + " bytes", made <= MOST_BYTES_AT_FIRST, true);
    }

    public static void main(String[] args) throws IllegalAccessException {
        keptRoom();
        if (METER.isThreadAllocatedMemorySupported() && METER.isThreadAllocatedMemoryEnabled()) {
            roomOfCalls("a game", newGame());
            roomOfCalls("an ending", newEnding());
            roomOfJudging();
        } else {
            System.out.println("what calls make can't be measured here");
        }
        end();
    }
}
