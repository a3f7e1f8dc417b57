/** Promises 8 to 14, sentence by sentence: the calls of one place. */
public final class PlaceEdgesTest {
    private static final Edges EDGES = new Edges();

    private static final int[] NO_PLACE_OF_THREE = Edges.outside(2);

    private interface Put {
        int of(ColumnHouse house, int c, int i, int sort, int b);
    }

    public static void main(String[] args) {
        put("put", (h, c, i, sort, b) -> h.put(c, i, sort, 0, b));
        put("putBoxed", (h, c, i, sort, b) -> h.putBoxed(c, i, sort, 0, b));
        putThingOnThePlace();
        putThingNothing();
        putThingNoColumn();
        putThingNoRow();
        putThingNoPlace();
        putThingIntoAPlainRow();
        putThingThatDoesNotFit();
        numberOfThePlace();
        numberNoSort();
        numberNoRow();
        numberNoPlace();
        numberNoValue();
        numberThatDoesNotGo();
        pointOfThePlace();
        pointNoSort();
        pointNoRow();
        pointNoPlace();
        pointNoValue();
        pointThatDoesNotGo();
        whatIsThere();
        whatRefused();
        takeAThing();
        takeNothing();
        takeNoColumn();
        takeNoRow();
        takeFromAPlainRow();
        takeNoPlace();
        EDGES.due.end();
    }

    /** Promises 8 and 9: the same, word by word. */
    private static void put(String name, Put put) {
        putOnThePlace(name, put);
        putNoColumn(name, put);
        putNoSort(name, put);
        putNoRow(name, put);
        putNoPlace(name, put);
        putIntoNoPlainRow(name, put);
        putThatDoesNotGo(name, put);
    }

    private static void putOnThePlace(String name, Put put) {
        EDGES.due.sentence(name + ": Place i of the row in column c gets the value. Answers 1");
        for (int kind = 0; kind <= 7; kind++) {
            for (int n : new int[] {1, 2, 24}) {
                for (int i : new int[] {0, n - 1}) {
                    ColumnHouse house = new ColumnHouse();
                    int sort = kind;
                    house.make(1, kind, n);
                    EDGES.done(name + " at " + i + " of " + n, house, 1, h -> put.of(h, 1, i, sort, 1));
                    for (int k = 0; k < n; k++) {
                        double want = k != i ? 0 : kind <= 5 ? 1 : 0.125;
                        double got = kind <= 5 ? house.number(1, k, kind) : house.point(1, k, kind);
                        EDGES.due.point("place " + k, got, want);
                    }
                    EDGES.done(name + " again over it", house, 1, h -> put.of(h, 1, i, sort, 0));
                    EDGES.due.point("place " + i, kind <= 5 ? house.number(1, i, kind) : house.point(1, i, kind), 0.0);
                }
            }
        }
    }

    private static void putNoColumn(String name, Put put) {
        EDGES.due.sentence(name + ": 1 (c)");
        for (int c : Edges.outside(11)) {
            EDGES.refused(1, name + " in " + c, h -> put.of(h, c, 0, 4, 1));
            EDGES.refused(1, name + " in " + c + " at no place", h -> put.of(h, c, -1, 4, 1));
        }
    }

    private static void putNoSort(String name, Put put) {
        EDGES.due.sentence(name + ": 1 (sort not 0 .. 7), told before 2, 3, 4 and 5");
        for (int sort : Edges.outside(7)) {
            EDGES.refused(1, name + " of sort " + sort, h -> put.of(h, Edges.DOUBLES, 0, sort, 1));
            EDGES.refused(1, name + ": before NOTHING", h -> put.of(h, Edges.NOTHING, 0, sort, 1));
            EDGES.refused(1, name + ": before no row", h -> put.of(h, Edges.CARD, 0, sort, 1));
            EDGES.refused(1, name + ": before no place", h -> put.of(h, Edges.DOUBLES, 6, sort, 1));
            EDGES.refused(1, name + ": before no PLAIN ROW", h -> put.of(h, Edges.CARDS, 0, sort, 1));
        }
        EDGES.done("sort 0", Edges.house(), 1, h -> put.of(h, Edges.FLAGS, 0, 0, 1));
        EDGES.done("sort 7", Edges.house(), 1, h -> put.of(h, Edges.DOUBLES, 0, 7, 1));
    }

    private static void putNoRow(String name, Put put) {
        EDGES.due.sentence(name + ": 2; 3");
        for (int sort = 0; sort <= 7; sort++) {
            int told = sort;
            for (int i : new int[] {0, -1, 24}) {
                EDGES.refused(2, name + " into NOTHING", h -> put.of(h, Edges.NOTHING, i, told, 1));
                EDGES.refused(3, name + " into a card", h -> put.of(h, Edges.CARD, i, told, 1));
            }
        }
    }

    private static void putNoPlace(String name, Put put) {
        EDGES.due.sentence(name + ": 4, told before 5");
        for (int kind = 0; kind <= 11; kind++) {
            for (int n : new int[] {0, 1, 24}) {
                for (int i : Edges.outside(n - 1)) {
                    ColumnHouse house = new ColumnHouse();
                    house.make(1, kind, n);
                    int sort = Math.min(kind, 7);
                    EDGES.refused(4, name + " at " + i + " of " + n, house, h -> put.of(h, 1, i, sort, 1));
                    EDGES.refused(4, name + " FLAG at " + i + " of " + n, house, h -> put.of(h, 1, i, 0, 1));
                    EDGES.refused(4, name + " DOUBLE at " + i + " of " + n, house, h -> put.of(h, 1, i, 7, 1));
                }
            }
        }
    }

    private static void putIntoNoPlainRow(String name, Put put) {
        EDGES.due.sentence(name + ": 5: it is no PLAIN ROW");
        for (int c = Edges.CARDS; c <= Edges.DECKS; c++) {
            for (int sort = 0; sort <= 7; sort++) {
                int column = c;
                int told = sort;
                EDGES.refused(5, name + " over a thing", h -> put.of(h, column, 0, told, 1));
                EDGES.refused(5, name + " over NOTHING", h -> put.of(h, column, 1, told, 1));
            }
        }
    }

    private static void putThatDoesNotGo(String name, Put put) {
        EDGES.due.sentence(name + ": 5: the sort doesn't go into its sort");
        for (int sort = 0; sort <= 7; sort++) {
            for (int kind = 0; kind <= 7; kind++) {
                if (!Edges.goes(sort, kind)) {
                    ColumnHouse house = new ColumnHouse();
                    int told = sort;
                    Fixture.row(house, 1, kind, 1, 1);
                    // Not even a 0, which is a number of every sort.
                    EDGES.refused(5, name + " 0 of " + sort + " into " + kind, house, h -> put.of(h, 1, 1, told, 0));
                    EDGES.refused(5, name + " 8 of " + sort + " into " + kind, house, h -> put.of(h, 1, 1, told, 8));
                }
            }
        }
    }

    private static void putThingOnThePlace() {
        EDGES.due.sentence("putThing: Place i of the row in column c gets what column d holds. Answers 1 if that is a thing");
        int[] fitting = {12, 14, 4, 9};
        for (int kind = 8; kind <= 11; kind++) {
            for (int n : new int[] {1, 2, 24}) {
                for (int i : new int[] {0, n - 1}) {
                    ColumnHouse house = new ColumnHouse();
                    int thing = fitting[kind - 8];
                    house.make(1, kind, n);
                    house.make(2, thing, 3);
                    EDGES.done("putThing at " + i + " of " + n, house, 1, h -> h.putThing(1, i, 2));
                    for (int k = 0; k < n; k++) {
                        EDGES.due.is("place " + k, house.what(1, k), k == i ? thing : -1);
                    }
                    EDGES.due.is("column d still holds it", house.kind(2), thing);
                }
            }
        }
    }

    private static void putThingNothing() {
        EDGES.due.sentence("putThing: 0 if NOTHING");
        for (int c = Edges.CARDS; c <= Edges.DECKS; c++) {
            int column = c;
            ColumnHouse house = Edges.house();
            EDGES.done("putThing NOTHING over a thing", house, 0, h -> h.putThing(column, 0, Edges.NOTHING));
            EDGES.done("NOTHING is there", house, -1, h -> h.what(column, 0));
            EDGES.done("putThing NOTHING over NOTHING", house, 0, h -> h.putThing(column, 1, Edges.NOTHING));
            EDGES.done("NOTHING is there", house, -1, h -> h.what(column, 1));
        }
    }

    private static void putThingNoColumn() {
        EDGES.due.sentence("putThing: 1 (of column c and of column d), told before 2, 3, 4 and 5");
        for (int c : Edges.outside(11)) {
            EDGES.refused(1, "putThing into " + c, h -> h.putThing(c, 0, Edges.CARD));
            EDGES.refused(1, "putThing of " + c, h -> h.putThing(Edges.CARDS, 0, c));
            EDGES.refused(1, "putThing of " + c + " into NOTHING", h -> h.putThing(Edges.NOTHING, 0, c));
            EDGES.refused(1, "putThing of " + c + " into a card", h -> h.putThing(Edges.CARD, 0, c));
            EDGES.refused(1, "putThing of " + c + " at no place", h -> h.putThing(Edges.CARDS, 3, c));
            EDGES.refused(1, "putThing of " + c + " into INTS", h -> h.putThing(Edges.INTS, 0, c));
        }
    }

    private static void putThingNoRow() {
        EDGES.due.sentence("putThing: 2, 3 (of column c)");
        for (int i : new int[] {0, -1, 24}) {
            for (int d : new int[] {Edges.NOTHING, Edges.CARD, Edges.INTS}) {
                EDGES.refused(2, "putThing into NOTHING", h -> h.putThing(Edges.NOTHING, i, d));
                EDGES.refused(3, "putThing into a card", h -> h.putThing(Edges.CARD, i, d));
            }
        }
    }

    private static void putThingNoPlace() {
        EDGES.due.sentence("putThing: 4, told before 5");
        for (int kind = 0; kind <= 11; kind++) {
            for (int n : new int[] {0, 1, 24}) {
                for (int i : Edges.outside(n - 1)) {
                    String name = "putThing at " + i + " of " + n + ": ";
                    EDGES.refused(4, name + "a BADGE", rowAndThings(kind, n), h -> h.putThing(1, i, 2));
                    EDGES.refused(4, name + "INTS", rowAndThings(kind, n), h -> h.putThing(1, i, 3));
                    EDGES.refused(4, name + "NOTHING", rowAndThings(kind, n), h -> h.putThing(1, i, 0));
                }
            }
        }
    }

    /** Column 1 holds a row, 2 a BADGE, 3 a row of INTS. */
    private static ColumnHouse rowAndThings(int kind, int n) {
        ColumnHouse house = new ColumnHouse();
        house.make(1, kind, n);
        house.make(2, 14, 3);
        house.make(3, 4, 1);
        return house;
    }

    private static void putThingIntoAPlainRow() {
        EDGES.due.sentence("putThing: 5: it is a PLAIN ROW (NOTHING doesn't go into it either)");
        for (int kind = 0; kind <= 7; kind++) {
            for (int d = Edges.NOTHING; d <= Edges.CARD; d++) {
                int held = d;
                ColumnHouse house = Edges.house();
                Fixture.row(house, Edges.INTS, kind, 1);
                EDGES.refused(5, "putThing " + d + " into " + kind, house, h -> h.putThing(Edges.INTS, 0, held));
            }
        }
    }

    private static void putThingThatDoesNotFit() {
        EDGES.due.sentence("putThing: 5: the thing doesn't fit");
        for (int row = 8; row <= 11; row++) {
            for (int kind = 0; kind <= 14; kind++) {
                if (!Edges.fits(kind, row)) {
                    ColumnHouse house = Edges.house();
                    int c = Edges.CARDS + row - 8;
                    house.make(Edges.LONGS, kind, 3);
                    EDGES.refused(5, "over a thing: " + kind, house, h -> h.putThing(c, 0, Edges.LONGS));
                    EDGES.refused(5, "over NOTHING: " + kind, house, h -> h.putThing(c, 1, Edges.LONGS));
                }
            }
        }
        // A row doesn't fit into itself, whatever its kind.
        for (int c = Edges.CARDS; c <= Edges.DECKS; c++) {
            int column = c;
            EDGES.refused(5, "a row into itself", h -> h.putThing(column, 0, column));
        }
    }

    private static void numberOfThePlace() {
        EDGES.due.sentence("number: The value at place i of the row in column c as one of a sort 0 .. 5: its number");
        for (int kind = 0; kind <= 5; kind++) {
            for (int sort = 0; sort <= 5; sort++) {
                int as = sort;
                ColumnHouse house = new ColumnHouse();
                house.make(1, kind, 24);
                Fixture.put(house, 1, 0, kind, 1);
                Fixture.put(house, 1, 23, kind, -1);
                long last = new long[] {1, -1, 65535, -1, -1, -1}[kind];
                if (Edges.goes(kind, sort)) {
                    EDGES.done("the first of " + kind + " as " + sort, house, 1, h -> h.number(1, 0, as));
                    EDGES.done("the last of " + kind + " as " + sort, house, last, h -> h.number(1, 23, as));
                    EDGES.done("one between", house, 0, h -> h.number(1, 22, as));
                }
            }
        }
        ColumnHouse house = new ColumnHouse();
        Fixture.row(house, 1, 5, Long.MAX_VALUE, Long.MIN_VALUE, (1L << 53) + 1);
        EDGES.due.is("the most", house.number(1, 0, 5), Long.MAX_VALUE);
        EDGES.due.is("the least", house.number(1, 1, 5), Long.MIN_VALUE);
        EDGES.due.is("one that is no DOUBLE", house.number(1, 2, 5), (1L << 53) + 1);
    }

    private static void numberNoSort() {
        EDGES.due.sentence("number: 1 (c; sort not 0 .. 5), told before 2, 3, 4 and 5");
        for (int c : Edges.outside(11)) {
            EDGES.refused(1, "number in " + c, h -> h.number(c, 0, 4));
        }
        for (int sort : new int[] {-1, 6, 7, 8, Integer.MIN_VALUE, Integer.MAX_VALUE}) {
            EDGES.refused(1, "number as " + sort, h -> h.number(Edges.INTS, 0, sort));
            EDGES.refused(1, "number of a DOUBLE as " + sort, h -> h.number(Edges.DOUBLES, 0, sort));
            EDGES.refused(1, "number: before NOTHING", h -> h.number(Edges.NOTHING, 0, sort));
            EDGES.refused(1, "number: before no row", h -> h.number(Edges.CARD, 0, sort));
            EDGES.refused(1, "number: before no place", h -> h.number(Edges.INTS, 3, sort));
            EDGES.refused(1, "number: before no PLAIN ROW", h -> h.number(Edges.CARDS, 0, sort));
        }
        EDGES.done("as 0", Edges.house(), 1, h -> h.number(Edges.FLAGS, 0, 0));
        EDGES.done("as 5", Edges.house(), 5, h -> h.number(Edges.INTS, 0, 5));
    }

    private static void numberNoRow() {
        EDGES.due.sentence("number: 2; 3");
        for (int sort = 0; sort <= 5; sort++) {
            int as = sort;
            for (int i : new int[] {0, -1, 24}) {
                EDGES.refused(2, "number of NOTHING", h -> h.number(Edges.NOTHING, i, as));
                EDGES.refused(3, "number of a card", h -> h.number(Edges.CARD, i, as));
            }
        }
    }

    private static void numberNoPlace() {
        EDGES.due.sentence("number: 4, told before 5");
        for (int kind = 0; kind <= 11; kind++) {
            for (int n : new int[] {0, 1, 24}) {
                for (int i : Edges.outside(n - 1)) {
                    ColumnHouse house = new ColumnHouse();
                    house.make(1, kind, n);
                    int sort = Math.min(kind, 5);
                    EDGES.refused(4, "number at " + i + " of " + n, house, h -> h.number(1, i, sort));
                    EDGES.refused(4, "number as FLAG at " + i + " of " + n, house, h -> h.number(1, i, 0));
                    EDGES.refused(4, "number as LONG at " + i + " of " + n, house, h -> h.number(1, i, 5));
                }
            }
        }
    }

    private static void numberNoValue() {
        EDGES.due.sentence("number: 5: it is no PLAIN ROW");
        for (int c = Edges.CARDS; c <= Edges.DECKS; c++) {
            for (int sort = 0; sort <= 5; sort++) {
                int column = c;
                int as = sort;
                EDGES.refused(5, "number of a thing", h -> h.number(column, 0, as));
                EDGES.refused(5, "number of NOTHING at a place", h -> h.number(column, 1, as));
            }
        }
    }

    private static void numberThatDoesNotGo() {
        EDGES.due.sentence("number: 5: its sort doesn't go into that");
        for (int kind = 0; kind <= 7; kind++) {
            for (int sort = 0; sort <= 5; sort++) {
                if (!Edges.goes(kind, sort)) {
                    int as = sort;
                    ColumnHouse house = new ColumnHouse();
                    Fixture.row(house, 1, kind, 1, 8);
                    EDGES.refused(5, "number of " + kind + " as " + sort, house, h -> h.number(1, 0, as));
                    EDGES.refused(5, "number of " + kind + " as " + sort, house, h -> h.number(1, 1, as));
                }
            }
        }
    }

    private static void pointOfThePlace() {
        EDGES.due.sentence("point: Likewise as one of sort 6 or 7");
        for (int kind = 1; kind <= 7; kind++) {
            for (int sort = 6; sort <= 7; sort++) {
                int as = sort;
                ColumnHouse house = new ColumnHouse();
                house.make(1, kind, 24);
                Fixture.put(house, 1, 0, kind, 1);
                Fixture.put(house, 1, 23, kind, -1);
                double last = new double[] {0, -1, 65535, -1, -1, -1, -0.125, -0.125}[kind];
                if (Edges.goes(kind, sort)) {
                    EDGES.done("the first of " + kind, house, kind <= 5 ? 1 : 0.125, h -> h.point(1, 0, as));
                    EDGES.done("the last of " + kind, house, last, h -> h.point(1, 23, as));
                    EDGES.done("one between", house, 0, h -> h.point(1, 22, as));
                }
            }
        }
    }

    private static void pointNoSort() {
        EDGES.due.sentence("point: 1 (c; sort not 6, 7), told before 2, 3, 4 and 5");
        for (int c : Edges.outside(11)) {
            EDGES.refused(1, "point in " + c, h -> h.point(c, 0, 7));
        }
        for (int sort : new int[] {-1, 0, 4, 5, 8, Integer.MIN_VALUE, Integer.MAX_VALUE}) {
            EDGES.refused(1, "point as " + sort, h -> h.point(Edges.DOUBLES, 0, sort));
            EDGES.refused(1, "point of an INT as " + sort, h -> h.point(Edges.INTS, 0, sort));
            EDGES.refused(1, "point: before NOTHING", h -> h.point(Edges.NOTHING, 0, sort));
            EDGES.refused(1, "point: before no row", h -> h.point(Edges.CARD, 0, sort));
            EDGES.refused(1, "point: before no place", h -> h.point(Edges.DOUBLES, 6, sort));
            EDGES.refused(1, "point: before no PLAIN ROW", h -> h.point(Edges.CARDS, 0, sort));
        }
        EDGES.done("as 6", Edges.house(), 5, h -> h.point(Edges.INTS, 0, 6));
        EDGES.done("as 7", Edges.house(), 5, h -> h.point(Edges.INTS, 0, 7));
    }

    private static void pointNoRow() {
        EDGES.due.sentence("point: 2; 3");
        for (int i : new int[] {0, -1, 24}) {
            for (int sort : new int[] {6, 7}) {
                EDGES.refused(2, "point of NOTHING", h -> h.point(Edges.NOTHING, i, sort));
                EDGES.refused(3, "point of a card", h -> h.point(Edges.CARD, i, sort));
            }
        }
    }

    private static void pointNoPlace() {
        EDGES.due.sentence("point: 4, told before 5");
        for (int kind = 0; kind <= 11; kind++) {
            for (int n : new int[] {0, 1, 24}) {
                for (int i : Edges.outside(n - 1)) {
                    ColumnHouse house = new ColumnHouse();
                    house.make(1, kind, n);
                    EDGES.refused(4, "point as FLOAT at " + i + " of " + n, house, h -> h.point(1, i, 6));
                    EDGES.refused(4, "point as DOUBLE at " + i + " of " + n, house, h -> h.point(1, i, 7));
                }
            }
        }
    }

    private static void pointNoValue() {
        EDGES.due.sentence("point: 5: it is no PLAIN ROW");
        for (int c = Edges.CARDS; c <= Edges.DECKS; c++) {
            for (int sort = 6; sort <= 7; sort++) {
                int column = c;
                int as = sort;
                EDGES.refused(5, "point of a thing", h -> h.point(column, 0, as));
                EDGES.refused(5, "point of NOTHING at a place", h -> h.point(column, 1, as));
            }
        }
    }

    private static void pointThatDoesNotGo() {
        EDGES.due.sentence("point: 5: its sort doesn't go into that");
        ColumnHouse house = new ColumnHouse();
        Fixture.row(house, 1, 0, 1);
        EDGES.refused(5, "a FLAG as FLOAT", house, h -> h.point(1, 0, 6));
        EDGES.refused(5, "a FLAG as DOUBLE", house, h -> h.point(1, 0, 7));
        Fixture.row(house, 1, 7, 8);
        EDGES.refused(5, "a DOUBLE as FLOAT", house, h -> h.point(1, 0, 6));
    }

    private static void whatIsThere() {
        EDGES.due.sentence("what: the sort of a value (0 .. 7); the kind of a thing; -1 NOTHING");
        for (int kind = 0; kind <= 7; kind++) {
            ColumnHouse house = new ColumnHouse();
            int sort = kind;
            // Of whatever sort it was told: what is there is of the row's sort.
            house.make(1, kind, 24);
            house.put(1, 23, kind >= 3 ? 1 : kind, 0, 1);
            EDGES.done("the first place", house, sort, h -> h.what(1, 0));
            EDGES.done("the last place", house, sort, h -> h.what(1, 23));
        }
        for (int row = 8; row <= 11; row++) {
            for (int kind = 0; kind <= 14; kind++) {
                if (Edges.fits(kind, row)) {
                    ColumnHouse house = new ColumnHouse();
                    int thing = kind;
                    house.make(1, row, 24);
                    house.make(2, kind, 3);
                    house.putThing(1, 23, 2);
                    EDGES.done("the thing", house, thing, h -> h.what(1, 23));
                    EDGES.done("NOTHING", house, -1, h -> h.what(1, 0));
                }
            }
        }
    }

    private static void whatRefused() {
        EDGES.due.sentence("what: Reasons: 1; 2; 3; 4");
        for (int c : Edges.outside(11)) {
            EDGES.refused(1, "what in " + c, h -> h.what(c, 0));
        }
        for (int i : new int[] {0, -1, 24}) {
            EDGES.refused(2, "what of NOTHING", h -> h.what(Edges.NOTHING, i));
            EDGES.refused(3, "what of a card", h -> h.what(Edges.CARD, i));
        }
        for (int c : new int[] {Edges.INTS, Edges.LONGS, Edges.CARDS, Edges.BADGES}) {
            for (int i : NO_PLACE_OF_THREE) {
                EDGES.refused(4, "what at " + i, h -> h.what(c, i));
            }
        }
    }

    private static void takeAThing() {
        EDGES.due.sentence("take: Column d holds what is at place i of the row in column c. Answers 1 if that is a thing");
        for (int row = 8; row <= 11; row++) {
            for (int kind = 0; kind <= 14; kind++) {
                for (int i : new int[] {0, 23}) {
                    if (Edges.fits(kind, row)) {
                        ColumnHouse house = new ColumnHouse();
                        house.make(1, row, 24);
                        house.make(2, kind, 3);
                        house.putThing(1, i, 2);
                        EDGES.done("take", house, 1, h -> h.take(1, i, 3));
                        EDGES.due.is("it is there", house.kind(3), kind);
                        EDGES.due.is("it is still here", house.what(1, i), kind);
                        EDGES.done("take over the row's own column", house, 1, h -> h.take(1, i, 1));
                        EDGES.due.is("it is there", house.kind(1), kind);
                    }
                }
            }
        }
    }

    private static void takeNothing() {
        EDGES.due.sentence("take: 0 if NOTHING");
        for (int c = Edges.CARDS; c <= Edges.DECKS; c++) {
            int column = c;
            ColumnHouse house = Edges.house();
            EDGES.done("take NOTHING over a row", house, 0, h -> h.take(column, 1, Edges.INTS));
            EDGES.due.is("NOTHING is there", house.kind(Edges.INTS), -1);
            EDGES.done("take NOTHING over its own row", house, 0, h -> h.take(column, 1, column));
            EDGES.due.is("NOTHING is there", house.kind(column), -1);
        }
    }

    private static void takeNoColumn() {
        EDGES.due.sentence("take: 1 (of column c and of column d), told before 2, 3, 6 and 4");
        for (int c : Edges.outside(11)) {
            EDGES.refused(1, "take from " + c, h -> h.take(c, 0, Edges.INTS));
            EDGES.refused(1, "take to " + c, h -> h.take(Edges.CARDS, 0, c));
            EDGES.refused(1, "take NOTHING to " + c, h -> h.take(Edges.CARDS, 1, c));
            EDGES.refused(1, "take from NOTHING to " + c, h -> h.take(Edges.NOTHING, 0, c));
            EDGES.refused(1, "take from a card to " + c, h -> h.take(Edges.CARD, 0, c));
            EDGES.refused(1, "take from INTS to " + c, h -> h.take(Edges.INTS, 0, c));
            EDGES.refused(1, "take from no place to " + c, h -> h.take(Edges.CARDS, 3, c));
        }
    }

    private static void takeNoRow() {
        EDGES.due.sentence("take: 2, 3 (of column c)");
        for (int i : new int[] {0, -1, 24}) {
            for (int d : new int[] {Edges.NOTHING, Edges.CARD, Edges.INTS}) {
                EDGES.refused(2, "take from NOTHING", h -> h.take(Edges.NOTHING, i, d));
                EDGES.refused(3, "take from a card", h -> h.take(Edges.CARD, i, d));
            }
        }
    }

    private static void takeFromAPlainRow() {
        EDGES.due.sentence("take: 6: it is a PLAIN ROW; told before 4");
        for (int kind = 0; kind <= 7; kind++) {
            for (int n : new int[] {0, 1, 24}) {
                for (int i : new int[] {0, n, -1, Integer.MIN_VALUE, Integer.MAX_VALUE}) {
                    ColumnHouse house = Edges.house();
                    house.make(Edges.LONGS, kind, n);
                    EDGES.refused(6, "take at " + i + " of " + n, house, h -> h.take(Edges.LONGS, i, Edges.INTS));
                }
            }
        }
    }

    private static void takeNoPlace() {
        EDGES.due.sentence("take: 4");
        for (int kind = 8; kind <= 11; kind++) {
            for (int n : new int[] {0, 1, 24}) {
                for (int i : Edges.outside(n - 1)) {
                    ColumnHouse house = new ColumnHouse();
                    house.make(1, kind, n);
                    house.make(2, 12, 3);
                    EDGES.refused(4, "take at " + i + " of " + n, house, h -> h.take(1, i, 2));
                }
            }
        }
    }
}
