/** Promises 8 to 14: one place. */
public final class PlaceTest {
    private static final Fixture CHECK = new Fixture();

    /** The sorts that each sort goes into, as the document lists them. */
    private static final String[] GOES = {"0", "134567", "24567", "34567", "4567", "567", "67", "7"};

    /** Halfway between two FLOATS, and 1 more: by way of a DOUBLE it would become the lower one. */
    private static final long ABOVE_HALF = (1L << 60) + (1L << 36) + 1;
    private static final double UPPER_FLOAT = (double) ((1L << 60) + (1L << 37));

    private interface Put {
        int of(ColumnHouse house, int c, int i, int sort, long v);
    }

    public static void main(String[] args) {
        putPromise("put", (h, c, i, sort, v) -> h.put(c, i, sort, (int) (v >> 32), (int) v));
        putPromise("putBoxed", (h, c, i, sort, v) -> h.putBoxed(c, i, sort, (int) (v >> 32), (int) v));
        promise10PutThing();
        promise11Number();
        promise12Point();
        promise13What();
        promise14Take();
        CHECK.due.end();
    }

    private static boolean goes(int sort, int wanted) {
        return GOES[sort].indexOf('0' + wanted) >= 0;
    }

    /** Promises 8 and 9, which are the same word by word. */
    private static void putPromise(String name, Put put) {
        tellsWholeValues(name, put);
        tellsPoints(name, put);
        widens(name, put);
        refusesToPut(name, put);
    }

    private static void tellsWholeValues(String name, Put put) {
        long[] told = {0, 1, -1, 127, 128, 255, 256, 32768, 65535, 65536, -32769, 0x80000000L, 1L << 32, 0x123456789ABCDEF0L,
            Long.MAX_VALUE, Long.MIN_VALUE};
        for (long v : told) {
            long[] due = {v & 1, (byte) v, v & 65535, (short) v, (int) v, v};
            for (int sort = 0; sort <= 5; sort++) {
                ColumnHouse house = new ColumnHouse();
                house.make(4, sort, 2);
                CHECK.done(name + " of sort " + sort, house, put.of(house, 4, 1, sort, v), 1);
                CHECK.done(name + " " + v, house, house.number(4, 1, sort), due[sort]);
                CHECK.done("the other place", house, house.number(4, 0, sort), 0);
            }
        }
    }

    private static void tellsPoints(String name, Put put) {
        long[] told = {0, 1, -7, 100, (1L << 24) + 1, (1L << 24) + 3, (1L << 53) + 1, (1L << 53) + 3, ABOVE_HALF,
            0xFFFFFFFFL, Long.MAX_VALUE, Long.MIN_VALUE};
        double[] floats = {0.0, 0.125, -0.875, 12.5, 2097152.0, 2097152.5, 0x1p50, 0x1p50, UPPER_FLOAT / 8,
            0x1p29, 0x1p60, -0x1p60};
        double[] doubles = {0.0, 0.125, -0.875, 12.5, 2097152.125, 2097152.375, 0x1p50, 0x1p50 + 0.5,
            0x1p57 + 0x1p33, 536870911.875, 0x1p60, -0x1p60};
        for (int k = 0; k < told.length; k++) {
            ColumnHouse house = new ColumnHouse();
            house.make(0, Fixture.FLOATS, 1);
            house.make(1, Fixture.DOUBLES, 2);
            CHECK.done(name + " FLOAT", house, put.of(house, 0, 0, 6, told[k]), 1);
            CHECK.done(name + " DOUBLE", house, put.of(house, 1, 0, 7, told[k]), 1);
            CHECK.done(name + " FLOAT among DOUBLES", house, put.of(house, 1, 1, 6, told[k]), 1);
            CHECK.donePoint("the FLOAT of " + told[k], house, house.point(0, 0, 6), floats[k]);
            CHECK.donePoint("the DOUBLE of " + told[k], house, house.point(1, 0, 7), doubles[k]);
            CHECK.donePoint("the FLOAT as DOUBLE of " + told[k], house, house.point(1, 1, 7), floats[k]);
        }
    }

    private static void widens(String name, Put put) {
        for (int sort = 0; sort <= 7; sort++) {
            for (int kind = 0; kind <= 7; kind++) {
                ColumnHouse house = new ColumnHouse();
                house.make(0, kind, 1);
                boolean goes = goes(sort, kind);
                CHECK.due.is(name + " " + sort + " into " + kind, put.of(house, 0, 0, sort, -1), goes ? 1 : 0);
                CHECK.due.is("its why", house.why(), goes ? 0 : 5);
                double value = goes ? new double[] {1, -1, 65535, -1, -1, -1, -0.125, -0.125}[sort] : 0;
                double got = kind <= 5 ? house.number(0, 0, kind) : house.point(0, 0, kind);
                CHECK.due.point(name + ": the value of " + sort + " in " + kind, got, value);
            }
        }
        ColumnHouse house = new ColumnHouse();
        house.make(0, Fixture.FLOATS, 1);
        house.make(1, Fixture.DOUBLES, 1);
        put.of(house, 0, 0, 5, ABOVE_HALF);
        CHECK.donePoint(name + " LONG into FLOATS", house, house.point(0, 0, 6), UPPER_FLOAT);
        put.of(house, 0, 0, 4, (1 << 24) + 1);
        CHECK.donePoint(name + " INT into FLOATS", house, house.point(0, 0, 6), 0x1p24);
        put.of(house, 1, 0, 5, (1L << 53) + 1);
        CHECK.donePoint(name + " LONG into DOUBLES", house, house.point(1, 0, 7), 0x1p53);
    }

    private static void refusesToPut(String name, Put put) {
        CHECK.refusedColumns(name, (h, c) -> put.of(h, c, 0, 4, 1));
        for (int sort : new int[] {-1, 8, Integer.MIN_VALUE, Integer.MAX_VALUE}) {
            CHECK.refused(1, name + " of sort " + sort, h -> put.of(h, 3, 0, sort, 1));
            CHECK.refused(1, name + ": sort before NOTHING", h -> put.of(h, 10, 0, sort, 1));
            CHECK.refused(1, name + ": sort before card", h -> put.of(h, 9, 0, sort, 1));
            CHECK.refused(1, name + ": sort before place", h -> put.of(h, 3, 3, sort, 1));
        }
        CHECK.refused(2, name + " into NOTHING", h -> put.of(h, 10, 0, 4, 1));
        CHECK.refused(3, name + " into a card", h -> put.of(h, 9, 0, 4, 1));
        for (int i : new int[] {-1, 3, Integer.MIN_VALUE, Integer.MAX_VALUE}) {
            CHECK.refused(4, name + " at " + i, h -> put.of(h, 3, i, 4, 1));
            CHECK.refused(4, name + ": place before sort", h -> put.of(h, 3, i, 5, 1));
            CHECK.refused(4, name + ": place before things", h -> put.of(h, 6, i, 4, 1));
        }
        CHECK.refused(5, name + " LONG into INTS", h -> put.of(h, 3, 0, 5, 1));
        for (int c : new int[] {6, 7, 8, 11}) {
            for (int sort = 0; sort <= 7; sort++) {
                int told = sort;
                CHECK.refused(5, name + " into things", h -> put.of(h, c, 0, told, 1));
            }
        }
    }

    private static void promise10PutThing() {
        String[] fits = {"", "", "", "", "", "", "", "", "CDE", "E", "4", "89"};
        for (int row = 0; row <= 11; row++) {
            for (int kind = 0; kind <= 14; kind++) {
                ColumnHouse house = new ColumnHouse();
                house.make(0, row, 2);
                house.make(1, kind, 3);
                boolean goes = fits[row].indexOf(Integer.toHexString(kind).toUpperCase()) >= 0;
                CHECK.due.is("putThing " + kind + " into " + row, house.putThing(0, 1, 1), goes ? 1 : 0);
                CHECK.due.is("its why", house.why(), goes ? 0 : 5);
                CHECK.done("what is there", house, house.what(0, 1), goes ? kind : row <= 7 ? row : -1);
            }
        }
        for (int row = 8; row <= 11; row++) {
            ColumnHouse house = Fixture.furnished();
            int c = row == 11 ? 11 : row - 2;
            CHECK.done("putThing NOTHING", house, house.putThing(c, 0, 10), 0);
            CHECK.done("NOTHING there", house, house.what(c, 0), -1);
        }
        ColumnHouse house = Fixture.furnished();
        Fixture.put(house, 3, 2, 4, 44);
        house.take(8, 0, 10);
        CHECK.done("the row in a place is the same one", house, house.number(10, 2, 4), 44);
        refusesThings();
    }

    private static void refusesThings() {
        CHECK.refusedColumns("putThing into", (h, c) -> h.putThing(c, 0, 9));
        CHECK.refusedColumns("putThing of", (h, d) -> h.putThing(6, 0, d));
        CHECK.refusedColumns("putThing of, before NOTHING", (h, d) -> h.putThing(10, 0, d));
        CHECK.refusedColumns("putThing of, before card", (h, d) -> h.putThing(9, 0, d));
        CHECK.refused(2, "putThing into NOTHING", h -> h.putThing(10, 0, 9));
        CHECK.refused(3, "putThing into a card", h -> h.putThing(9, 0, 9));
        for (int i : new int[] {-1, 3, Integer.MIN_VALUE, Integer.MAX_VALUE}) {
            CHECK.refused(4, "putThing at " + i, h -> h.putThing(6, i, 9));
            CHECK.refused(4, "putThing: place before fit", h -> h.putThing(7, i, 9));
            CHECK.refused(4, "putThing: place before plain", h -> h.putThing(3, i, 9));
        }
        CHECK.refused(5, "putThing NOTHING into INTS", h -> h.putThing(3, 0, 10));
        CHECK.refused(5, "putThing NOTHING into FLAGS", h -> h.putThing(0, 0, 10));
        CHECK.refused(5, "putThing CARD into DOUBLES", h -> h.putThing(5, 0, 9));
        CHECK.refused(5, "putThing CARD into BADGES", h -> h.putThing(7, 0, 9));
    }

    private static void promise11Number() {
        for (int kind = 0; kind <= 7; kind++) {
            for (int sort = 0; sort <= 5; sort++) {
                ColumnHouse house = new ColumnHouse();
                Fixture.row(house, 0, kind, 0, -1);
                long value = goes(kind, sort) ? new long[] {1, -1, 65535, -1, -1, -1, 0, 0}[kind] : 0;
                CHECK.due.is("number of " + kind + " as " + sort, house.number(0, 1, sort), value);
                CHECK.due.is("its why", house.why(), goes(kind, sort) ? 0 : 5);
            }
        }
        ColumnHouse house = new ColumnHouse();
        Fixture.row(house, 0, Fixture.LONGS, Long.MIN_VALUE, Long.MAX_VALUE);
        CHECK.done("the least LONG", house, house.number(0, 0, 5), Long.MIN_VALUE);
        CHECK.done("the greatest LONG", house, house.number(0, 1, 5), Long.MAX_VALUE);
        CHECK.refusedColumns("number", (h, c) -> h.number(c, 0, 4));
        for (int sort : new int[] {-1, 6, 7, 8, Integer.MIN_VALUE, Integer.MAX_VALUE}) {
            CHECK.refused(1, "number as " + sort, h -> h.number(3, 0, sort));
            CHECK.refused(1, "number of NOTHING as " + sort, h -> h.number(10, 0, sort));
            CHECK.refused(1, "number of a card as " + sort, h -> h.number(9, 0, sort));
            CHECK.refused(1, "number of no place as " + sort, h -> h.number(3, 3, sort));
        }
        CHECK.refused(2, "number of NOTHING", h -> h.number(10, 0, 4));
        CHECK.refused(3, "number of a card", h -> h.number(9, 0, 4));
        for (int i : new int[] {-1, 3, Integer.MIN_VALUE, Integer.MAX_VALUE}) {
            CHECK.refused(4, "number at " + i, h -> h.number(3, i, 4));
            CHECK.refused(4, "number: place before sort", h -> h.number(3, i, 3));
            CHECK.refused(4, "number: place before things", h -> h.number(6, i, 4));
        }
        CHECK.refused(5, "number of INTS as SHORT", h -> h.number(3, 0, 3));
        for (int c : new int[] {6, 7, 8, 11}) {
            CHECK.refused(5, "number of things", h -> h.number(c, 0, 4));
            CHECK.refused(5, "number of NOTHING at a place", h -> h.number(c, 1, 5));
        }
    }

    private static void promise12Point() {
        for (int kind = 0; kind <= 7; kind++) {
            for (int sort = 6; sort <= 7; sort++) {
                ColumnHouse house = new ColumnHouse();
                Fixture.row(house, 0, kind, 0, -1);
                double value = goes(kind, sort) ? new double[] {0, -1, 65535, -1, -1, -1, -0.125, -0.125}[kind] : 0;
                CHECK.due.point("point of " + kind + " as " + sort, house.point(0, 1, sort), value);
                CHECK.due.is("its why", house.why(), goes(kind, sort) ? 0 : 5);
            }
        }
        ColumnHouse house = new ColumnHouse();
        Fixture.row(house, 0, Fixture.LONGS, ABOVE_HALF, (1L << 53) + 1, (1L << 53) + 3);
        CHECK.donePoint("a LONG as FLOAT", house, house.point(0, 0, 6), UPPER_FLOAT);
        CHECK.donePoint("a LONG as DOUBLE", house, house.point(0, 0, 7), 0x1p60 + 0x1p36);
        CHECK.donePoint("to the even one below", house, house.point(0, 1, 7), 0x1p53);
        CHECK.donePoint("to the even one above", house, house.point(0, 2, 7), 0x1p53 + 4);
        Fixture.row(house, 1, Fixture.INTS, (1 << 24) + 1, Integer.MAX_VALUE);
        CHECK.donePoint("an INT as FLOAT", house, house.point(1, 0, 6), 0x1p24);
        CHECK.donePoint("the greatest INT as FLOAT", house, house.point(1, 1, 6), 0x1p31);
        CHECK.donePoint("the greatest INT as DOUBLE", house, house.point(1, 1, 7), 2147483647.0);
        CHECK.refusedColumns("point", (h, c) -> h.point(c, 0, 7));
        for (int sort : new int[] {-1, 0, 5, 8, Integer.MIN_VALUE, Integer.MAX_VALUE}) {
            CHECK.refused(1, "point as " + sort, h -> h.point(5, 0, sort));
            CHECK.refused(1, "point of NOTHING as " + sort, h -> h.point(10, 0, sort));
            CHECK.refused(1, "point of a card as " + sort, h -> h.point(9, 0, sort));
        }
        CHECK.refused(2, "point of NOTHING", h -> h.point(10, 0, 7));
        CHECK.refused(3, "point of a card", h -> h.point(9, 0, 7));
        for (int i : new int[] {-1, 3, Integer.MIN_VALUE, Integer.MAX_VALUE}) {
            CHECK.refused(4, "point at " + i, h -> h.point(5, i, 7));
            CHECK.refused(4, "point: place before sort", h -> h.point(5, i, 6));
            CHECK.refused(4, "point: place before things", h -> h.point(6, i, 7));
        }
        CHECK.refused(5, "point of DOUBLES as FLOAT", h -> h.point(5, 0, 6));
        CHECK.refused(5, "point of FLAGS", h -> h.point(0, 0, 7));
        CHECK.refused(5, "point of CARDS", h -> h.point(6, 0, 7));
    }

    private static void promise13What() {
        ColumnHouse house = Fixture.furnished();
        CHECK.done("what of FLAGS", house, house.what(0, 0), 0);
        CHECK.done("what of CHARS", house, house.what(2, 2), 2);
        CHECK.done("what of DOUBLES", house, house.what(5, 1), 7);
        CHECK.done("a CARD", house, house.what(6, 0), 12);
        CHECK.done("NOTHING", house, house.what(6, 1), -1);
        CHECK.done("a BADGE", house, house.what(6, 2), 14);
        CHECK.done("INTS", house, house.what(8, 0), 4);
        CHECK.done("CARDS", house, house.what(11, 0), 8);
        house.make(10, Fixture.PASS, 1);
        house.putThing(6, 1, 10);
        CHECK.done("a PASS", house, house.what(6, 1), 13);
        house.putThing(11, 1, 7);
        CHECK.done("BADGES", house, house.what(11, 1), 9);
        CHECK.refusedColumns("what", (h, c) -> h.what(c, 0));
        CHECK.refused(2, "what of NOTHING", h -> h.what(10, 0));
        CHECK.refused(3, "what of a card", h -> h.what(9, 0));
        for (int i : new int[] {-1, 3, Integer.MIN_VALUE, Integer.MAX_VALUE}) {
            CHECK.refused(4, "what at " + i, h -> h.what(3, i));
            CHECK.refused(4, "what of things at " + i, h -> h.what(6, i));
        }
    }

    private static void promise14Take() {
        ColumnHouse house = Fixture.furnished();
        CHECK.done("take a card", house, house.take(6, 0, 10), 1);
        CHECK.done("the card", house, house.tag(10), 9);
        CHECK.done("it is still there", house, house.what(6, 0), 12);
        CHECK.done("take NOTHING", house, house.take(6, 1, 3), 0);
        CHECK.done("NOTHING", house, house.kind(3), -1);
        CHECK.done("take a row", house, house.take(8, 0, 3), 1);
        CHECK.done("the row", house, house.number(3, 1, 4), -3);
        CHECK.done("take over its own row", house, house.take(11, 0, 11), 1);
        CHECK.done("CARDS", house, house.kind(11), 8);
        CHECK.done("the same CARDS", house, house.alike(6, 11), 1);
        CHECK.refusedColumns("take from", (h, c) -> h.take(c, 0, 3));
        CHECK.refusedColumns("take to", (h, d) -> h.take(6, 0, d));
        CHECK.refusedColumns("take to, before NOTHING", (h, d) -> h.take(10, 0, d));
        CHECK.refusedColumns("take to, before plain", (h, d) -> h.take(3, 0, d));
        CHECK.refused(2, "take from NOTHING", h -> h.take(10, 0, 3));
        CHECK.refused(3, "take from a card", h -> h.take(9, 0, 3));
        for (int c = 0; c <= 5; c++) {
            int column = c;
            CHECK.refused(6, "take from a plain row", h -> h.take(column, 0, 9));
            CHECK.refused(6, "take: plain before place", h -> h.take(column, 3, 9));
        }
        for (int i : new int[] {-1, 3, Integer.MIN_VALUE, Integer.MAX_VALUE}) {
            CHECK.refused(4, "take at " + i, h -> h.take(6, i, 9));
        }
    }
}
