import java.util.function.ToDoubleFunction;

/** Sentences of "Terms" that hold at every call: columns, WHY, the order of its reasons, rows that are the same one. */
public final class EveryCallEdgesTest {
    private static final Edges EDGES = new Edges();

    public static void main(String[] args) {
        columnsHoldNothingAtFirst();
        columnsFromFirstToLast();
        columnsOutside();
        nothingWhereARowIsWanted();
        aThingThatIsNoRow();
        whyIsZeroWhenDone();
        whyIsZeroWhenDoneWithAnAnswerOfZero();
        whyOfTheLatestCallButWhy();
        reasonOneComesFirst();
        nothingComesBeforeNoRow();
        reasonsOfColumnsComeBeforeThoseOfPlaces();
        EDGES.due.end();
    }

    private static void columnsHoldNothingAtFirst() {
        EDGES.due.sentence("The COLUMNS 0 .. 11 hold a thing each, or NOTHING; NOTHING at first.");
        ColumnHouse house = new ColumnHouse();
        for (int c = 0; c < 12; c++) {
            EDGES.due.is("kind of " + c, house.kind(c), -1);
        }
        for (int c = 0; c < 12; c++) {
            house.make(c, 12, 100 + c);
        }
        for (int c = 0; c < 12; c++) {
            EDGES.due.is("tag in " + c, house.tag(c), 100 + c);
        }
    }

    /** Columns 0 and 11 get what the usual column has; then the call must answer the same. */
    private static void columnsFromFirstToLast() {
        EDGES.due.sentence("The COLUMNS 0 .. 11: the first and the last are taken at every call");
        for (Calls call : Calls.ALL) {
            double want = call.run(Edges.house(), call.columns);
            for (int which = 0; which < call.count(); which++) {
                for (int column : new int[] {0, 11}) {
                    ColumnHouse house = Edges.house();
                    house.lay(call.columns[which], column);
                    int[] columns = call.with(which, column);
                    EDGES.done(call.name + " with column " + column, house, want, h -> call.run(h, columns));
                }
            }
        }
    }

    private static void columnsOutside() {
        EDGES.due.sentence("a column that is not 0 .. 11 is such a one at every call");
        for (Calls call : Calls.ALL) {
            for (int which = 0; which < call.count(); which++) {
                for (int column : Edges.outside(11)) {
                    int[] columns = call.with(which, column);
                    EDGES.refused(1, call.name + " with column " + column, h -> call.run(h, columns));
                }
            }
        }
    }

    private static void nothingWhereARowIsWanted() {
        EDGES.due.sentence("2 NOTHING where a row is wanted");
        for (Calls call : Calls.ALL) {
            for (int which = 0; which < call.count(); which++) {
                if (call.wantsRow(which)) {
                    int[] columns = call.with(which, Edges.NOTHING);
                    EDGES.refused(2, call.name + " with NOTHING as column " + which, h -> call.run(h, columns));
                }
            }
        }
    }

    private static void aThingThatIsNoRow() {
        EDGES.due.sentence("3 a thing that is no row");
        for (Calls call : Calls.ALL) {
            for (int which = 0; which < call.count(); which++) {
                for (int kind = 12; kind <= 14 && call.wantsRow(which); kind++) {
                    ColumnHouse house = Edges.house();
                    house.make(Edges.CARD, kind, 3);
                    int[] columns = call.with(which, Edges.CARD);
                    EDGES.refused(3, call.name + " with a card as column " + which, house, h -> call.run(h, columns));
                }
            }
        }
    }

    private static void whyIsZeroWhenDone() {
        EDGES.due.sentence("WHY: 0 it was done");
        for (Calls call : Calls.ALL) {
            ColumnHouse house = Edges.house();
            house.kind(12);
            EDGES.due.is("why before", house.why(), 1);
            call.run(house, call.columns);
            EDGES.due.is("why after " + call.name, house.why(), 0);
        }
    }

    private static void doneWithZero(String name, ToDoubleFunction<ColumnHouse> call) {
        ColumnHouse house = Edges.house();
        house.make(Edges.INTS, 4, 0);
        EDGES.done(name, house, 0.0, call);
    }

    /** An answer of 0 is no refusal where the call was done. */
    private static void whyIsZeroWhenDoneWithAnAnswerOfZero() {
        EDGES.due.sentence("WHY: 0 it was done, though the answer is 0");
        doneWithZero("lay NOTHING", h -> h.lay(Edges.NOTHING, Edges.CARD));
        doneWithZero("places of no place", h -> h.places(Edges.INTS));
        doneWithZero("kind of FLAGS", h -> h.kind(Edges.FLAGS));
        doneWithZero("putThing NOTHING", h -> h.putThing(Edges.CARDS, 0, Edges.NOTHING));
        doneWithZero("number 0", h -> h.number(Edges.BYTES, 1, 1));
        doneWithZero("point 0", h -> h.point(Edges.BYTES, 1, 6));
        doneWithZero("what of FLAGS", h -> h.what(Edges.FLAGS, 0));
        doneWithZero("take NOTHING", h -> h.take(Edges.CARDS, 1, Edges.SPARE));
        doneWithZero("copy no place", h -> h.copy(Edges.INTS, Edges.INTS));
        doneWithZero("gather no place", h -> h.gather(Edges.LONGS, Edges.INTS, Edges.INTS));
        doneWithZero("scatter no place", h -> h.scatter(Edges.INTS, Edges.INTS, Edges.LONGS));
        doneWithZero("merge no place", h -> h.merge(Edges.INTS, Edges.INTS, Edges.INTS));
        doneWithZero("sort no place", h -> h.sort(Edges.INTS));
        doneWithZero("turn no place", h -> h.turn(Edges.INTS, 1));
        doneWithZero("sum of no place", h -> h.sum(Edges.INTS));
        doneWithZero("total of no place", h -> h.total(Edges.INTS));
        doneWithZero("find at place 0", h -> h.find(Edges.BYTES, 0, 1, 0, 2));
        doneWithZero("alike of other values", h -> h.alike(Edges.BYTES, Edges.LONGS));
        doneWithZero("alike of other lengths", h -> h.alike(Edges.INTS, Edges.LONGS));
        ColumnHouse house = new ColumnHouse();
        house.make(0, 13, 0);
        EDGES.done("tag 0", house, 0, h -> h.tag(0));
        EDGES.done("load 0", house, 0, h -> h.load(0));
    }

    private static void whyOfTheLatestCallButWhy() {
        EDGES.due.sentence("WHY, of the latest call but why()");
        ColumnHouse house = Edges.house();
        ToDoubleFunction<ColumnHouse>[] byReason = refusedBy();
        for (int first = 0; first <= 6; first++) {
            for (int second = 0; second <= 6; second++) {
                byReason[first].applyAsDouble(house);
                EDGES.due.is("why", house.why(), first);
                EDGES.due.is("why again", house.why(), first);
                byReason[second].applyAsDouble(house);
                EDGES.due.is("why of the later one", house.why(), second);
            }
        }
    }

    /** At each number a call with that WHY. */
    @SuppressWarnings("unchecked")
    private static ToDoubleFunction<ColumnHouse>[] refusedBy() {
        return (ToDoubleFunction<ColumnHouse>[]) new ToDoubleFunction<?>[] {
            call(h -> h.places(Edges.INTS)), call(h -> h.places(12)), call(h -> h.places(Edges.NOTHING)),
            call(h -> h.places(Edges.CARD)), call(h -> h.what(Edges.INTS, 3)), call(h -> h.tag(Edges.INTS)),
            call(h -> h.sum(Edges.FLAGS))
        };
    }

    private static ToDoubleFunction<ColumnHouse> call(ToDoubleFunction<ColumnHouse> call) {
        return call;
    }

    private static void reasonOneComesFirst() {
        EDGES.due.sentence("Of several reasons that counts which is told first at the call: 1 before 2 and 3");
        for (Calls call : Calls.ALL) {
            for (int which = 0; which < call.count(); which++) {
                for (int others : new int[] {Edges.NOTHING, Edges.CARD}) {
                    int[] low = call.withOthers(which, -1, others);
                    int[] high = call.withOthers(which, 12, others);
                    EDGES.refused(1, call.name + " with column -1 and others amiss", h -> call.run(h, low));
                    EDGES.refused(1, call.name + " with column 12 and others amiss", h -> call.run(h, high));
                }
            }
        }
    }

    private static void nothingComesBeforeNoRow() {
        EDGES.due.sentence("Of several reasons that counts which is told first at the call: 2 before 3");
        for (Calls call : Calls.ALL) {
            for (int which = 0; which < call.count(); which++) {
                if (call.wantsRow(which)) {
                    int[] columns = call.withOthers(which, Edges.NOTHING, Edges.CARD);
                    EDGES.refused(2, call.name + " with NOTHING as column " + which, h -> call.run(h, columns));
                }
            }
        }
    }

    /** In column after column NOTHING, then a card; all else that can be amiss at the call is amiss. */
    private static void reasonsOfColumnsComeBeforeThoseOfPlaces() {
        EDGES.due.sentence("Of several reasons that counts which is told first at the call: 2 and 3 before 4, 5 and 6");
        int[] columns = {Edges.NOTHING, Edges.CARD};
        for (int k = 0; k < 2; k++) {
            int c = columns[k];
            int reason = 2 + k;
            EDGES.refused(reason, "put", h -> h.put(c, -1, 5, 0, 1));
            EDGES.refused(reason, "putBoxed", h -> h.putBoxed(c, -1, 5, 0, 1));
            EDGES.refused(reason, "putThing", h -> h.putThing(c, -1, Edges.LONGS));
            EDGES.refused(reason, "number", h -> h.number(c, -1, 0));
            EDGES.refused(reason, "point", h -> h.point(c, -1, 6));
            EDGES.refused(reason, "what", h -> h.what(c, -1));
            EDGES.refused(reason, "take", h -> h.take(c, -1, Edges.LONGS));
            EDGES.refused(reason, "copy c", h -> h.copy(c, Edges.SHEETS));
            EDGES.refused(reason, "copy d", h -> h.copy(Edges.SHEETS, c));
            EDGES.refused(reason, "gather c", h -> h.gather(c, Edges.LONGS, Edges.SHEETS));
            EDGES.refused(reason, "gather x", h -> h.gather(Edges.LONGS, c, Edges.SHEETS));
            EDGES.refused(reason, "gather d", h -> h.gather(Edges.SHEETS, Edges.LONGS, c));
            EDGES.refused(reason, "scatter c", h -> h.scatter(c, Edges.LONGS, Edges.SHEETS));
            EDGES.refused(reason, "scatter x", h -> h.scatter(Edges.LONGS, c, Edges.SHEETS));
            EDGES.refused(reason, "scatter d", h -> h.scatter(Edges.SHEETS, Edges.LONGS, c));
            EDGES.refused(reason, "merge c", h -> h.merge(c, Edges.FLAGS, Edges.SHEETS));
            EDGES.refused(reason, "merge d", h -> h.merge(Edges.CARDS, c, Edges.SHEETS));
            EDGES.refused(reason, "merge e", h -> h.merge(Edges.CARDS, Edges.FLAGS, c));
            EDGES.refused(reason, "alike", h -> h.alike(Edges.SHEETS, c));
        }
    }
}
