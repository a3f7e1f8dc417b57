import java.util.function.ToDoubleFunction;

/**
 * Each thing of a house is still the same one after a call, and not only one just like it: in its column, and at its
 * place. Only make, lay and take give a column another thing, and only when they are done.
 */
public final class SameThingTest {
    private static final Due DUE = new Due();

    private static final int NONE = -1;

    /** For each kind of row of things, from 8 on, a kind that fits it. */
    private static final int[] FITTING = {12, 14, 4, 8};

    public static void main(String[] args) {
        theLookTellsThingsApart();
        callsThatAreDone();
        callsRefusedForTheirColumns();
        callsRefusedForTheirNumbers();
        callsRefusedForTheirPlaces();
        callsRefusedForTheirKinds();
        callsRefusedPlaceByPlace();
        DUE.end();
    }

    /** 1 if columns c and d hold the same thing; the house is not used any more after it. */
    private static int same(ColumnHouse house, int c, int d) {
        int kind = house.kind(c);
        if (kind != house.kind(d)) {
            return 0;
        }
        if (kind >= 12) {
            return sameCard(house, c, d);
        }
        return kind <= 7 ? samePlainRow(house, c, d, kind) : sameRowOfThings(house, c, d, kind);
    }

    private static int sameCard(ColumnHouse house, int c, int d) {
        int left = Edges.NOTHING;
        int right = c == Edges.INTS ? Edges.BYTES : Edges.INTS;
        house.make(left, 8, 1);
        house.putThing(left, 0, c);
        house.make(right, 8, 1);
        house.putThing(right, 0, d);
        return house.alike(left, right);
    }

    private static int samePlainRow(ColumnHouse house, int c, int d, int kind) {
        boolean same = true;
        for (int v = 0; v <= 1; v++) {
            Fixture.put(house, c, 0, kind, v);
            same &= Fixture.find(house, d, 0, kind, v) == 0;
        }
        return same ? 1 : 0;
    }

    private static int sameRowOfThings(ColumnHouse house, int c, int d, int kind) {
        house.make(Edges.NOTHING, 8, 1);
        house.take(Edges.NOTHING, 0, Edges.NOTHING);
        house.putThing(c, 0, Edges.NOTHING);
        boolean same = house.what(d, 0) == -1;
        house.make(Edges.NOTHING, FITTING[kind - 8], 3);
        house.putThing(c, 0, Edges.NOTHING);
        same &= house.what(d, 0) == FITTING[kind - 8];
        return same ? 1 : 0;
    }

    private static void theLookTellsThingsApart() {
        for (int kind = 0; kind <= 14; kind++) {
            ColumnHouse house = new ColumnHouse();
            house.make(4, kind, 2);
            house.make(Edges.SPARE, kind, 2);
            DUE.is("two of kind " + kind, same(house, 4, Edges.SPARE), 0);
            house = new ColumnHouse();
            house.make(4, kind, 2);
            house.lay(4, Edges.SPARE);
            DUE.is("one of kind " + kind, same(house, 4, Edges.SPARE), 1);
        }
    }

    /** After the call each column of Edges.house(), but for the one that gets another thing, holds what it held. */
    private static void keeps(String name, int another, ToDoubleFunction<ColumnHouse> call) {
        for (int c = Edges.INTS; c <= Edges.CARD; c++) {
            ColumnHouse house = Edges.house();
            house.lay(c, Edges.SPARE);
            call.applyAsDouble(house);
            DUE.is(name + ": column " + c + " holds the same", same(house, c, Edges.SPARE), c == another ? 0 : 1);
        }
    }

    /** A refused call leaves at each place of a row of things the same thing, too. */
    private static void refused(String name, ToDoubleFunction<ColumnHouse> call) {
        keeps(name, NONE, call);
        for (int c = Edges.CARDS; c <= Edges.DECKS; c++) {
            ColumnHouse house = Edges.house();
            house.make(Edges.SPARE, house.kind(c), house.places(c));
            house.copy(c, Edges.SPARE);
            call.applyAsDouble(house);
            DUE.is(name + ": it is refused", house.why() > 0 ? 1 : 0, 1);
            DUE.is(name + ": the same at the places of " + c, house.alike(c, Edges.SPARE), 1);
        }
    }

    private static void callsThatAreDone() {
        for (Calls call : Calls.ALL) {
            boolean gives = call.name.equals("make") || call.name.equals("lay") || call.name.equals("take");
            int another = gives ? call.columns[call.columns.length - 1] : NONE;
            keeps(call.name, another, h -> call.run(h, call.columns));
        }
        keeps("lay on itself", NONE, h -> h.lay(Edges.CARD, Edges.CARD));
        keeps("sort things", NONE, h -> h.sort(Edges.CARDS));
        keeps("turn things", NONE, h -> h.turn(Edges.CARDS, 1));
        keeps("copy things", NONE, h -> h.copy(Edges.BADGES, Edges.CARDS));
        keeps("gather things", NONE, h -> h.gather(Edges.CARDS, Edges.BYTES, Edges.CARDS));
        keeps("scatter things", NONE, h -> h.scatter(Edges.BADGES, Edges.BYTES, Edges.CARDS));
        keeps("copy onto itself", NONE, h -> h.copy(Edges.DECKS, Edges.DECKS));
        keeps("why", NONE, ColumnHouse::why);
    }

    private static void callsRefusedForTheirColumns() {
        for (Calls call : Calls.ALL) {
            for (int which = 0; which < call.count(); which++) {
                for (int column : Edges.outside(11)) {
                    int[] columns = call.with(which, column);
                    refused(call.name + " with column " + column, h -> call.run(h, columns));
                }
                if (call.wantsRow(which)) {
                    int[] nothing = call.with(which, Edges.NOTHING);
                    refused(call.name + " with NOTHING", h -> call.run(h, nothing));
                    int[] card = call.with(which, Edges.CARD);
                    refused(call.name + " with a card", h -> call.run(h, card));
                }
            }
        }
    }

    private static void callsRefusedForTheirNumbers() {
        for (int c = Edges.INTS; c <= Edges.CARD; c++) {
            int column = c;
            refused("make of no kind", h -> h.make(column, 15, 1));
            refused("make of a kind below 0", h -> h.make(column, -1, 1));
            refused("make too long", h -> h.make(column, 8, 25));
            refused("make too short", h -> h.make(column, 0, -1));
            refused("put of no sort", h -> h.put(column, 0, 8, 0, 1));
            refused("putBoxed of no sort", h -> h.putBoxed(column, 0, -1, 0, 1));
            refused("number of no sort", h -> h.number(column, 0, 6));
            refused("point of no sort", h -> h.point(column, 0, 5));
            refused("find of no sort", h -> h.find(column, 0, 8, 0, 1));
        }
    }

    private static void callsRefusedForTheirPlaces() {
        for (int i : new int[] {-1, 24}) {
            for (int c = Edges.CARDS; c <= Edges.DECKS; c++) {
                int column = c;
                refused("putThing at " + i, h -> h.putThing(column, i, Edges.CARD));
                refused("putThing NOTHING at " + i, h -> h.putThing(column, i, Edges.NOTHING));
                refused("take at " + i, h -> h.take(column, i, Edges.CARD));
                refused("take at " + i + " to itself", h -> h.take(column, i, column));
                refused("what at " + i, h -> h.what(column, i));
            }
            refused("put at " + i, h -> h.put(Edges.INTS, i, 4, 0, 1));
            refused("number at " + i, h -> h.number(Edges.INTS, i, 4));
            refused("point at " + i, h -> h.point(Edges.INTS, i, 7));
        }
    }

    private static void callsRefusedForTheirKinds() {
        refused("tag of a row", h -> h.tag(Edges.CARDS));
        refused("load of a row", h -> h.load(Edges.CARDS));
        refused("put among things", h -> h.put(Edges.CARDS, 0, 4, 0, 1));
        refused("putThing among values", h -> h.putThing(Edges.INTS, 0, Edges.CARD));
        refused("putThing NOTHING among values", h -> h.putThing(Edges.INTS, 0, Edges.NOTHING));
        refused("putThing that doesn't fit", h -> h.putThing(Edges.CARDS, 0, Edges.INTS));
        refused("take a value", h -> h.take(Edges.INTS, 0, Edges.CARD));
        refused("take a value to itself", h -> h.take(Edges.INTS, 0, Edges.INTS));
        refused("gather by LONGS", h -> h.gather(Edges.CARDS, Edges.LONGS, Edges.CARDS));
        refused("scatter by things", h -> h.scatter(Edges.CARDS, Edges.CARDS, Edges.CARDS));
        refused("merge things", h -> h.merge(Edges.CARDS, Edges.CARDS, Edges.CARDS));
        refused("merge FLAGS with others", h -> h.merge(Edges.FLAGS, Edges.INTS, Edges.DOUBLES));
        refused("sum of things", h -> h.sum(Edges.CARDS));
        refused("total of FLAGS", h -> h.total(Edges.FLAGS));
        refused("find among things", h -> h.find(Edges.CARDS, 0, 4, 0, 1));
    }

    private static void callsRefusedPlaceByPlace() {
        refused("copy of other lengths", h -> h.copy(Edges.SHEETS, Edges.CARDS));
        refused("copy things among values", h -> h.copy(Edges.CARDS, Edges.INTS));
        refused("copy values among things", h -> h.copy(Edges.INTS, Edges.CARDS));
        refused("copy what doesn't go", h -> h.copy(Edges.LONGS, Edges.INTS));
        // The first two places would be taken: a BADGE and NOTHING; the third one has a CARD.
        refused("copy what doesn't fit", h -> h.copy(Edges.CARDS, Edges.BADGES));
        refused("gather of no such place", h -> h.gather(Edges.CARDS, Edges.INTS, Edges.CARDS));
        refused("scatter to no such place", h -> h.scatter(Edges.CARDS, Edges.INTS, Edges.CARDS));
        refused("gather what doesn't fit", h -> h.gather(Edges.CARDS, Edges.BYTES, Edges.BADGES));
        refused("scatter what doesn't fit", h -> h.scatter(Edges.CARDS, Edges.BYTES, Edges.BADGES));
        refused("merge of other lengths", h -> h.merge(Edges.INTS, Edges.LONGS, Edges.BYTES));
        refused("merge what doesn't go", h -> {
            h.make(Edges.NOTHING, 4, 6);
            return h.merge(Edges.INTS, Edges.LONGS, Edges.NOTHING);
        });
    }
}
