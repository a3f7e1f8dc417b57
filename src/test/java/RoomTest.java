import com.sun.management.ThreadMXBean;
import java.lang.management.ManagementFactory;
import java.util.function.ToDoubleFunction;

/** How much room the calls of a run take: a house takes little, make a row or card, and no other call makes objects. */
public final class RoomTest {
    private static final Due DUE = new Due();
    private static final ThreadMXBean THREADS = (ThreadMXBean) ManagementFactory.getThreadMXBean();

    private static final int TIMES = 400;
    private static final int HOUSES = 20;
    /** An object has at least 16 bytes; so many in all can't be one a call. */
    private static final long LESS_THAN_ONE_EACH = 8L * TIMES;
    /** A row object and its 24 longs or references, with some bytes to spare. */
    private static final long OF_A_ROW = 300;
    private static final long OF_A_HOUSE = 4000;

    public static void main(String[] args) {
        newHouses();
        for (int kind = 0; kind <= 14; kind++) {
            int made = kind;
            is("make " + kind, bytes(h -> h.make(Edges.SPARE, made, 24)) <= OF_A_ROW * TIMES);
        }
        for (Calls call : Calls.ALL) {
            if (!call.name.equals("make")) {
                lessThanOneEach(call.name, h -> call.run(h, call.columns));
            }
            for (int column : new int[] {-1, 12}) {
                int[] refused = call.with(0, column);
                lessThanOneEach(call.name + " refused", h -> call.run(h, refused));
            }
        }
        lessThanOneEach("make refused", h -> h.make(Edges.SPARE, 4, 25));
        lessThanOneEach("copy of things", h -> h.copy(Edges.CARDS, Edges.CARDS));
        lessThanOneEach("sort of things", h -> h.sort(Edges.CARDS));
        lessThanOneEach("turn of things", h -> h.turn(Edges.BADGES, 1));
        lessThanOneEach("why", ColumnHouse::why);
        DUE.end();
    }

    private static void is(String name, boolean right) {
        DUE.is(name + " keeps to its room", right ? 1 : 0, 1);
    }

    private static void newHouses() {
        ColumnHouse[] houses = new ColumnHouse[HOUSES];
        long least = Long.MAX_VALUE;
        for (int k = 0; k < HOUSES; k++) {
            long before = THREADS.getCurrentThreadAllocatedBytes();
            houses[k] = new ColumnHouse();
            least = Math.min(least, THREADS.getCurrentThreadAllocatedBytes() - before);
        }
        is("a new house", least <= OF_A_HOUSE);
    }

    private static void lessThanOneEach(String name, ToDoubleFunction<ColumnHouse> call) {
        is(name, bytes(call) < LESS_THAN_ONE_EACH);
    }

    /** What so many calls of one house take; of some houses the least, as the first ones load classes. */
    private static long bytes(ToDoubleFunction<ColumnHouse> call) {
        long least = Long.MAX_VALUE;
        for (int k = 0; k < 3; k++) {
            ColumnHouse house = Edges.house();
            long before = THREADS.getCurrentThreadAllocatedBytes();
            for (int time = 0; time < TIMES; time++) {
                call.applyAsDouble(house);
            }
            least = Math.min(least, THREADS.getCurrentThreadAllocatedBytes() - before);
        }
        return least;
    }
}
