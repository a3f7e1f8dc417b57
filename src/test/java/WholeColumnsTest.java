/** Promises 15 to 20: whole columns. */
public final class WholeColumnsTest {
    private static final Fixture CHECK = new Fixture();
    private static final int SPARE = 11;

    /** Halfway between two FLOATS, and 1 more: by way of a DOUBLE it would become the lower one. */
    private static final long ABOVE_HALF = (1L << 60) + (1L << 36) + 1;

    public static void main(String[] args) {
        promise15Copy();
        promise15CopyOfThings();
        promise15Refusals();
        promise16Gather();
        promise16Refusals();
        promise17Scatter();
        promise17Refusals();
        promise18Merge();
        promise18MergeInto();
        promise18Refusals();
        promise19SortValues();
        promise19SortThings();
        promise20Turn();
        CHECK.due.end();
    }

    private static void values(ColumnHouse house, int c, String want) {
        CHECK.due.text("the values", Fixture.values(house, c), want);
    }

    private static void things(ColumnHouse house, int c, String want) {
        CHECK.due.text("the things", Fixture.thingsIn(house, c, SPARE), want);
    }

    private static void promise15Copy() {
        String[] goes = {"0", "134567", "24567", "34567", "4567", "567", "67", "7"};
        for (int from = 0; from <= 7; from++) {
            for (int to = 0; to <= 7; to++) {
                boolean done = goes[from].indexOf('0' + to) >= 0;
                ColumnHouse house = new ColumnHouse();
                Fixture.row(house, 0, from, 8, -1);
                house.make(1, to, 2);
                CHECK.due.is("copy " + from + " to " + to, house.copy(0, 1), done ? 2 : 0);
                CHECK.due.is("its why", house.why(), done ? 0 : 5);
                CHECK.done("alike", house, house.alike(0, 1), done ? 1 : 0);
                house.make(0, from, 0);
                house.make(1, to, 0);
                CHECK.done("copy of no place", house, house.copy(0, 1), 0);
            }
        }
        ColumnHouse house = new ColumnHouse();
        Fixture.row(house, 0, Fixture.LONGS, ABOVE_HALF, -7);
        house.make(1, Fixture.FLOATS, 2);
        CHECK.done("copy LONGS to FLOATS", house, house.copy(0, 1), 2);
        values(house, 1, (double) ((1L << 60) + (1L << 37)) + " -7.0");
        CHECK.done("copy to itself", house, house.copy(0, 0), 2);
        values(house, 0, ABOVE_HALF + " -7");
        Fixture.put(house, 0, 1, 5, 3);
        values(house, 1, (double) ((1L << 60) + (1L << 37)) + " -7.0");
    }

    private static void promise15CopyOfThings() {
        ColumnHouse house = new ColumnHouse();
        Fixture.things(house, 0, Fixture.CARDS, 5, Fixture.BADGE, 4, -1, 0, Fixture.BADGE, 6);
        house.make(1, Fixture.BADGES, 3);
        CHECK.done("copy CARDS that are BADGES", house, house.copy(0, 1), 3);
        things(house, 1, "14:4 - 14:6");
        CHECK.done("the same things", house, house.alike(0, 1), 1);
        Fixture.things(house, 2, Fixture.CARDS, 5, Fixture.CARD, 1, Fixture.PASS, 2, Fixture.CARD, 3);
        CHECK.done("copy BADGES to CARDS", house, house.copy(1, 2), 3);
        things(house, 2, "14:4 - 14:6");
        Fixture.things(house, 3, Fixture.CARDS, 5, Fixture.BADGE, 7, Fixture.BADGE, 8, Fixture.PASS, 9);
        CHECK.due.is("copy CARDS with a PASS to BADGES", house.copy(3, 1), 0);
        CHECK.due.is("its why", house.why(), 5);
        things(house, 1, "14:4 - 14:6");
        house.make(3, Fixture.SHEETS, 3);
        CHECK.done("copy NOTHING alone to BADGES", house, house.copy(3, 1), 3);
        things(house, 1, "- - -");
        house.make(4, Fixture.DECKS, 0);
        house.make(5, Fixture.INTS, 0);
        CHECK.done("copy DECKS of no place to INTS", house, house.copy(4, 5), 0);
        CHECK.done("copy INTS of no place to DECKS", house, house.copy(5, 4), 0);
        Fixture.things(house, 6, Fixture.SHEETS, 7, Fixture.INTS, 2);
        house.make(8, Fixture.DECKS, 1);
        CHECK.due.is("copy a sheet to DECKS", house.copy(6, 8), 0);
        CHECK.due.is("its why", house.why(), 5);
    }

    private static void promise15Refusals() {
        CHECK.refusedColumns("copy from", (h, c) -> h.copy(c, 3));
        CHECK.refusedColumns("copy to", (h, d) -> h.copy(3, d));
        CHECK.refusedColumns("copy to, before NOTHING", (h, d) -> h.copy(10, d));
        CHECK.refusedColumns("copy from, before card", (h, c) -> h.copy(c, 9));
        CHECK.refused(2, "copy from NOTHING", h -> h.copy(10, 3));
        CHECK.refused(2, "copy to NOTHING", h -> h.copy(3, 10));
        CHECK.refused(2, "copy: NOTHING before card", h -> h.copy(9, 10));
        CHECK.refused(2, "copy: NOTHING before card", h -> h.copy(10, 9));
        CHECK.refused(3, "copy from a card", h -> h.copy(9, 3));
        CHECK.refused(3, "copy to a card", h -> h.copy(3, 9));
        CHECK.refused(4, "copy to a shorter one", h -> h.copy(6, 8));
        CHECK.refused(4, "copy to a longer one", h -> h.copy(11, 6));
        CHECK.refused(4, "copy: length before value", h -> h.copy(3, 8));
        CHECK.refused(5, "copy INTS to BYTES", h -> h.copy(3, 1));
        CHECK.refused(5, "copy values to things", h -> h.copy(3, 6));
        CHECK.refused(5, "copy things to values", h -> h.copy(6, 3));
        CHECK.refused(5, "copy CARDS to BADGES", h -> h.copy(6, 7));
        CHECK.refused(5, "copy SHEETS to DECKS", h -> h.copy(8, 11));
        ColumnHouse house = new ColumnHouse();
        house.make(0, Fixture.CARDS, 1);
        house.make(1, Fixture.INTS, 1);
        CHECK.due.is("copy NOTHING to INTS", house.copy(0, 1), 0);
        CHECK.due.is("its why", house.why(), 5);
    }

    private static void promise16Gather() {
        for (int kind = 1; kind <= 4; kind++) {
            ColumnHouse house = new ColumnHouse();
            Fixture.row(house, 0, Fixture.INTS, 10, 20, 30);
            Fixture.row(house, 1, kind, 2, 0, 0, 1);
            house.make(2, Fixture.LONGS, 4);
            CHECK.done("gather by " + kind, house, house.gather(0, 1, 2), 4);
            values(house, 2, "30 10 10 20");
            values(house, 0, "10 20 30");
            values(house, 1, "2 0 0 1");
        }
        ColumnHouse house = new ColumnHouse();
        Fixture.row(house, 0, Fixture.INTS, 2, 0, 1);
        CHECK.done("gather a row by itself into itself", house, house.gather(0, 0, 0), 3);
        values(house, 0, "1 2 0");
        Fixture.row(house, 1, Fixture.INTS, 5, 6, 7);
        Fixture.row(house, 2, Fixture.BYTES, 2, 2, 0);
        house.lay(1, 3);
        CHECK.done("gather into what is read", house, house.gather(1, 2, 3), 3);
        values(house, 1, "7 7 5");
        Fixture.row(house, 4, Fixture.INTS, 1, 2, 0);
        Fixture.row(house, 5, Fixture.INTS, 7, 8, 9);
        CHECK.done("gather into the index", house, house.gather(5, 4, 4), 3);
        values(house, 4, "8 9 7");
        house.make(6, Fixture.CHARS, 0);
        house.make(7, Fixture.BADGES, 0);
        CHECK.done("gather no place", house, house.gather(5, 6, 7), 0);
        Fixture.things(house, 8, Fixture.CARDS, 9, Fixture.BADGE, 1, Fixture.CARD, 2, -1, 0);
        Fixture.row(house, 6, Fixture.CHARS, 2, 0);
        house.make(7, Fixture.BADGES, 2);
        CHECK.done("gather BADGES out of CARDS", house, house.gather(8, 6, 7), 2);
        things(house, 7, "- 14:1");
    }

    private static void promise16Refusals() {
        CHECK.refusedColumns("gather from", (h, c) -> h.gather(c, 1, 3));
        CHECK.refusedColumns("gather by", (h, x) -> h.gather(3, x, 3));
        CHECK.refusedColumns("gather to", (h, d) -> h.gather(3, 1, d));
        CHECK.refusedColumns("gather to, before NOTHING", (h, d) -> h.gather(10, 9, d));
        CHECK.refused(2, "gather from NOTHING", h -> h.gather(10, 1, 3));
        CHECK.refused(2, "gather by NOTHING", h -> h.gather(3, 10, 3));
        CHECK.refused(2, "gather to NOTHING", h -> h.gather(3, 1, 10));
        CHECK.refused(2, "gather: NOTHING before card", h -> h.gather(9, 1, 10));
        CHECK.refused(3, "gather from a card", h -> h.gather(9, 1, 3));
        CHECK.refused(3, "gather by a card", h -> h.gather(3, 9, 3));
        CHECK.refused(3, "gather to a card", h -> h.gather(3, 1, 9));
        for (int x : new int[] {0, 4, 5, 6, 7, 8, 11}) {
            CHECK.refused(6, "gather by " + x, h -> h.gather(3, x, 3));
        }
        CHECK.refused(6, "gather: kind before length", h -> h.gather(3, 4, 8));
        CHECK.refused(4, "gather: lengths", h -> h.gather(3, 1, 8));
        CHECK.refused(4, "gather: no such place", h -> h.gather(3, 2, 4));
        CHECK.refused(4, "gather: place before value", h -> h.gather(3, 2, 0));
        CHECK.refused(4, "gather: a place below 0", h -> h.gather(3, 3, 3));
        CHECK.refused(5, "gather LONGS to INTS", h -> h.gather(4, 1, 3));
        CHECK.refused(5, "gather values to things", h -> h.gather(3, 1, 6));
        CHECK.refused(5, "gather things to values", h -> h.gather(6, 1, 3));
        CHECK.refused(5, "gather CARDS to BADGES", h -> h.gather(6, 1, 7));
        gatherByPlaces(new long[] {0, 1, 9}, 5, "the value at place 1 before the place at 2");
        gatherByPlaces(new long[] {0, 9, 1}, 4, "the place at 1 before the value at 2");
        gatherByPlaces(new long[] {0, -1, 1}, 4, "a place below 0");
        gatherByPlaces(new long[] {0, 2, 2}, 4, "a place just past the end");
        gatherByPlaces(new long[] {0, 1 << 16, 0}, 4, "a place whose lowest bits are 0");
    }

    private static void gatherByPlaces(long[] places, int why, String name) {
        ColumnHouse house = new ColumnHouse();
        Fixture.things(house, 0, Fixture.CARDS, 5, Fixture.BADGE, 1, Fixture.CARD, 2);
        Fixture.row(house, 1, Fixture.INTS, places);
        Fixture.things(house, 2, Fixture.BADGES, 5, Fixture.BADGE, 7, Fixture.BADGE, 8, -1, 0);
        CHECK.due.is("gather: " + name, house.gather(0, 1, 2), 0);
        CHECK.due.is("gather: " + name + ": why", house.why(), why);
        things(house, 2, "14:7 14:8 -");
    }

    private static void promise17Scatter() {
        for (int kind = 1; kind <= 4; kind++) {
            ColumnHouse house = new ColumnHouse();
            Fixture.row(house, 0, Fixture.INTS, 10, 20, 30);
            Fixture.row(house, 1, kind, 3, 0, 3);
            Fixture.row(house, 2, Fixture.LONGS, 1, 2, 3, 4, 5);
            CHECK.done("scatter by " + kind, house, house.scatter(0, 1, 2), 3);
            values(house, 2, "20 2 3 30 5");
            values(house, 0, "10 20 30");
            values(house, 1, "3 0 3");
        }
        ColumnHouse house = new ColumnHouse();
        Fixture.row(house, 0, Fixture.INTS, 2, 0, 1);
        CHECK.done("scatter a row by itself into itself", house, house.scatter(0, 0, 0), 3);
        values(house, 0, "0 1 2");
        Fixture.row(house, 1, Fixture.INTS, 5, 6, 7);
        Fixture.row(house, 2, Fixture.BYTES, 1, 2, 2);
        house.lay(1, 3);
        CHECK.done("scatter into what is read", house, house.scatter(1, 2, 3), 3);
        values(house, 1, "5 5 7");
        Fixture.row(house, 4, Fixture.INTS, 1, 2, 0);
        Fixture.row(house, 5, Fixture.INTS, 2, 1, 0);
        CHECK.done("scatter into the index", house, house.scatter(5, 4, 4), 3);
        values(house, 4, "0 2 1");
        house.make(6, Fixture.CHARS, 0);
        house.make(7, Fixture.BADGES, 0);
        CHECK.done("scatter no place", house, house.scatter(7, 6, 5), 0);
        values(house, 5, "2 1 0");
        Fixture.things(house, 8, Fixture.CARDS, 9, Fixture.BADGE, 1, -1, 0);
        Fixture.row(house, 6, Fixture.SHORTS, 2, 0);
        Fixture.things(house, 7, Fixture.BADGES, 9, Fixture.BADGE, 5, Fixture.BADGE, 6, Fixture.BADGE, 7);
        CHECK.done("scatter BADGES out of CARDS", house, house.scatter(8, 6, 7), 2);
        things(house, 7, "- 14:6 14:1");
    }

    private static void promise17Refusals() {
        CHECK.refusedColumns("scatter from", (h, c) -> h.scatter(c, 1, 3));
        CHECK.refusedColumns("scatter by", (h, x) -> h.scatter(3, x, 3));
        CHECK.refusedColumns("scatter to", (h, d) -> h.scatter(3, 1, d));
        CHECK.refusedColumns("scatter to, before NOTHING", (h, d) -> h.scatter(10, 9, d));
        CHECK.refused(2, "scatter from NOTHING", h -> h.scatter(10, 1, 3));
        CHECK.refused(2, "scatter by NOTHING", h -> h.scatter(3, 10, 3));
        CHECK.refused(2, "scatter to NOTHING", h -> h.scatter(3, 1, 10));
        CHECK.refused(2, "scatter: NOTHING before card", h -> h.scatter(9, 1, 10));
        CHECK.refused(3, "scatter from a card", h -> h.scatter(9, 1, 3));
        CHECK.refused(3, "scatter by a card", h -> h.scatter(3, 9, 3));
        CHECK.refused(3, "scatter to a card", h -> h.scatter(3, 1, 9));
        for (int x : new int[] {0, 4, 5, 6, 7, 8, 11}) {
            CHECK.refused(6, "scatter by " + x, h -> h.scatter(3, x, 3));
        }
        CHECK.refused(6, "scatter: kind before length", h -> h.scatter(8, 4, 3));
        CHECK.refused(4, "scatter: lengths", h -> h.scatter(8, 1, 6));
        CHECK.refused(4, "scatter: no such place", h -> h.scatter(3, 2, 4));
        CHECK.refused(4, "scatter: place before value", h -> h.scatter(3, 2, 0));
        CHECK.refused(4, "scatter: a shorter one", h -> h.scatter(6, 1, 8));
        CHECK.refused(5, "scatter LONGS to INTS", h -> h.scatter(4, 1, 3));
        CHECK.refused(5, "scatter values to things", h -> h.scatter(3, 1, 6));
        CHECK.refused(5, "scatter things to values", h -> h.scatter(6, 1, 3));
        CHECK.refused(5, "scatter CARDS to BADGES", h -> h.scatter(6, 1, 7));
        scatterByPlaces(new long[] {0, 1, 9}, 5, "the value at 1 before the place at 2");
        scatterByPlaces(new long[] {9, 1, 0}, 4, "the place at 0 before the value at 1");
        scatterByPlaces(new long[] {0, 9, 1}, 4, "at 1 the place before the value");
        scatterByPlaces(new long[] {0, -1, 1}, 4, "a place below 0");
        scatterByPlaces(new long[] {2, 1, 1}, 4, "a place just past the end");
        scatterByPlaces(new long[] {1 << 16, 1, 1}, 4, "a place whose lowest bits are 0");
    }

    private static void scatterByPlaces(long[] places, int why, String name) {
        ColumnHouse house = new ColumnHouse();
        Fixture.things(house, 0, Fixture.CARDS, 5, Fixture.BADGE, 1, Fixture.CARD, 2, Fixture.BADGE, 3);
        Fixture.row(house, 1, Fixture.INTS, places);
        Fixture.things(house, 2, Fixture.BADGES, 5, Fixture.BADGE, 7, Fixture.BADGE, 8);
        CHECK.due.is("scatter: " + name, house.scatter(0, 1, 2), 0);
        CHECK.due.is("scatter: " + name + ": why", house.why(), why);
        things(house, 2, "14:7 14:8");
    }

    private static ColumnHouse merged(int left, long[] ofLeft, int right, long[] ofRight, int into) {
        ColumnHouse house = new ColumnHouse();
        Fixture.row(house, 0, left, ofLeft);
        Fixture.row(house, 1, right, ofRight);
        house.make(2, into, ofLeft.length + ofRight.length);
        CHECK.done("merge", house, house.merge(0, 1, 2), ofLeft.length + ofRight.length);
        return house;
    }

    private static void promise18Merge() {
        long[] none = {};
        values(merged(4, new long[] {1, 4, 6}, 4, new long[] {2, 3, 9}, 4), 2, "1 2 3 4 6 9");
        values(merged(4, new long[] {5, 1}, 4, new long[] {3, 9}, 4), 2, "3 5 1 9");
        values(merged(4, none, 4, new long[] {3, 1}, 4), 2, "3 1");
        values(merged(4, new long[] {3, 1}, 4, none, 4), 2, "3 1");
        values(merged(4, none, 4, none, 4), 2, "");
        values(merged(0, new long[] {0, 1}, 0, new long[] {0, 1}, 0), 2, "0 0 1 1");
        values(merged(0, new long[] {1}, 0, new long[] {0}, 0), 2, "0 1");
        values(merged(1, new long[] {-1}, 2, new long[] {65535}, 4), 2, "-1 65535");
        values(merged(2, new long[] {65535}, 3, new long[] {-1}, 4), 2, "-1 65535");
        values(merged(5, new long[] {(1L << 53) + 1}, 5, new long[] {1L << 53}, 5), 2, (1L << 53) + " " + ((1L << 53) + 1));
        values(merged(7, new long[] {8, 24}, 4, new long[] {2}, 7), 2, "1.0 2.0 3.0");
        values(merged(1, new long[] {1, 3}, 6, new long[] {12}, 7), 2, "1.0 1.5 3.0");
        // As DOUBLES the LONG and the other are like, so that of c comes first.
        ColumnHouse house = merged(5, new long[] {(1L << 53) + 1}, 7, new long[] {1L << 56}, 7);
        values(house, 2, 0x1p53 + " " + 0x1p53);
        values(merged(7, new long[] {1L << 56, 8}, 5, new long[] {(1L << 53) - 1}, 7), 2,
                9007199254740991.0 + " " + 0x1p53 + " 1.0");
        values(merged(4, new long[] {7, 0}, 5, new long[] {7, 1}, 5), 2, "7 0 7 1");
        values(merged(7, new long[] {8, 40}, 6, new long[] {8, 0}, 7), 2, "1.0 1.0 0.0 5.0");
        // Compared as DOUBLES: as FLOATS they would be like.
        values(merged(4, new long[] {(1 << 24) + 1}, 6, new long[] {1L << 27}, 7), 2, 0x1p24 + " " + (0x1p24 + 1));
        values(merged(6, new long[] {1L << 27}, 4, new long[] {(1 << 24) - 1}, 7), 2, (0x1p24 - 1) + " " + 0x1p24);
        values(merged(6, new long[] {-(1L << 27)}, 4, new long[] {-(1 << 24) - 1}, 7), 2, (-0x1p24 - 1) + " " + -0x1p24);
    }

    private static void promise18MergeInto() {
        values(merged(5, new long[] {ABOVE_HALF}, 4, new long[] {1}, 6), 2, "1.0 " + (double) ((1L << 60) + (1L << 37)));
        long[] twelve = {1, 2, 3, 4, 5, 6, 7, 8, 9, 10, 11, 12};
        values(merged(1, twelve, 1, twelve, 1), 2, "1 1 2 2 3 3 4 4 5 5 6 6 7 7 8 8 9 9 10 10 11 11 12 12");
        ColumnHouse house = new ColumnHouse();
        Fixture.row(house, 0, Fixture.INTS, 4, 2);
        house.make(1, Fixture.SHORTS, 0);
        house.lay(0, 2);
        CHECK.done("merge into what is read", house, house.merge(0, 1, 2), 2);
        values(house, 0, "4 2");
        CHECK.done("merge into what is read", house, house.merge(1, 0, 0), 2);
        values(house, 0, "4 2");
        // A row of LONGS with no place brings no value that could fail to go.
        house.make(3, Fixture.LONGS, 0);
        house.make(4, Fixture.INTS, 2);
        CHECK.done("merge with no LONG", house, house.merge(0, 3, 4), 2);
        values(house, 4, "4 2");
        house.make(5, Fixture.FLAGS, 0);
        CHECK.done("merge no FLAGS into no INTS", house, house.merge(5, 5, 1), 0);
    }

    private static void promise18Refusals() {
        CHECK.refusedColumns("merge c", (h, c) -> h.merge(c, 3, 3));
        CHECK.refusedColumns("merge d", (h, d) -> h.merge(3, d, 3));
        CHECK.refusedColumns("merge e", (h, e) -> h.merge(3, 3, e));
        CHECK.refusedColumns("merge e, before NOTHING", (h, e) -> h.merge(10, 9, e));
        CHECK.refused(2, "merge NOTHING", h -> h.merge(10, 3, 3));
        CHECK.refused(2, "merge with NOTHING", h -> h.merge(3, 10, 3));
        CHECK.refused(2, "merge into NOTHING", h -> h.merge(3, 3, 10));
        CHECK.refused(2, "merge: NOTHING before card", h -> h.merge(9, 9, 10));
        CHECK.refused(3, "merge a card", h -> h.merge(9, 3, 3));
        CHECK.refused(3, "merge with a card", h -> h.merge(3, 9, 3));
        CHECK.refused(3, "merge into a card", h -> h.merge(3, 3, 9));
        CHECK.refused(3, "merge: card before kind", h -> h.merge(6, 6, 9));
        CHECK.refused(6, "merge CARDS", h -> h.merge(6, 3, 3));
        CHECK.refused(6, "merge with BADGES", h -> h.merge(3, 7, 3));
        CHECK.refused(6, "merge into SHEETS", h -> h.merge(3, 3, 8));
        CHECK.refused(6, "merge FLAGS with INTS", h -> h.merge(0, 3, 3));
        CHECK.refused(6, "merge INTS with FLAGS", h -> h.merge(3, 0, 0));
        CHECK.refused(4, "merge into a shorter one", h -> h.merge(3, 3, 3));
        CHECK.refused(4, "merge: length before value", h -> h.merge(4, 3, 1));
        CHECK.refused(4, "merge FLAGS: length before value", h -> h.merge(0, 0, 3));
        ColumnHouse house = new ColumnHouse();
        Fixture.row(house, 0, Fixture.INTS, 1, 2);
        Fixture.row(house, 1, Fixture.LONGS, 9);
        Fixture.row(house, 2, Fixture.INTS, 5, 6, 7);
        CHECK.due.is("merge with a LONG into INTS", house.merge(0, 1, 2), 0);
        CHECK.due.is("its why", house.why(), 5);
        values(house, 2, "5 6 7");
        Fixture.row(house, 3, Fixture.FLAGS, 1);
        Fixture.row(house, 4, Fixture.INTS, 3, 3);
        CHECK.due.is("merge FLAGS into INTS", house.merge(3, 3, 4), 0);
        CHECK.due.is("its why", house.why(), 5);
        Fixture.row(house, 5, Fixture.FLAGS, 1, 1, 0);
        CHECK.due.is("merge INTS into FLAGS", house.merge(0, 1, 5), 0);
        CHECK.due.is("its why", house.why(), 5);
        values(house, 5, "1 1 0");
    }

    private static void sorted(int kind, long[] told, int changed, String want) {
        ColumnHouse house = new ColumnHouse();
        Fixture.row(house, 0, kind, told);
        CHECK.done("sort of " + kind, house, house.sort(0), changed);
        values(house, 0, want);
        CHECK.done("sort again", house, house.sort(0), 0);
    }

    private static void promise19SortValues() {
        sorted(0, new long[] {1, 0, 1, 0}, 2, "0 0 1 1");
        sorted(1, new long[] {127, -128, 0}, 3, "-128 0 127");
        sorted(2, new long[] {65535, 1}, 2, "1 65535");
        sorted(3, new long[] {-1, -32768, 32767}, 2, "-32768 -1 32767");
        sorted(4, new long[] {7, -3, 7, 1}, 3, "-3 1 7 7");
        sorted(4, new long[] {Integer.MAX_VALUE, Integer.MIN_VALUE}, 2, Integer.MIN_VALUE + " " + Integer.MAX_VALUE);
        sorted(5, new long[] {(1L << 53) + 1, 1L << 53}, 2, (1L << 53) + " " + ((1L << 53) + 1));
        sorted(5, new long[] {Long.MAX_VALUE, Long.MIN_VALUE, 0}, 3, Long.MIN_VALUE + " 0 " + Long.MAX_VALUE);
        sorted(6, new long[] {4, -4, 0}, 3, "-0.5 0.0 0.5");
        sorted(7, new long[] {2, 1, -1}, 2, "-0.125 0.125 0.25");
        sorted(4, new long[] {}, 0, "");
        sorted(4, new long[] {5}, 0, "5");
        sorted(4, new long[] {2, 2, 1}, 2, "1 2 2");
        long[] downwards = new long[24];
        StringBuilder upwards = new StringBuilder();
        for (int k = 0; k < 24; k++) {
            downwards[k] = 24 - k;
            upwards.append(k == 0 ? "" : " ").append(k + 1);
        }
        sorted(4, downwards, 24, upwards.toString());
        CHECK.refusedColumns("sort", (h, c) -> h.sort(c));
        CHECK.refused(2, "sort NOTHING", h -> h.sort(10));
        CHECK.refused(3, "sort a card", h -> h.sort(9));
    }

    private static void promise19SortThings() {
        ColumnHouse house = new ColumnHouse();
        Fixture.things(house, 0, Fixture.CARDS, SPARE, 12, 9, 13, -4, 14, 5, -1, 0, 14, Integer.MIN_VALUE, 12, Integer.MAX_VALUE);
        CHECK.done("sort CARDS", house, house.sort(0), 5);
        things(house, 0, "- 14:" + Integer.MIN_VALUE + " 13:-4 14:5 12:9 12:" + Integer.MAX_VALUE);
        CHECK.done("sort CARDS again", house, house.sort(0), 0);
        // By their loads the BADGE would come last.
        Fixture.things(house, 1, Fixture.CARDS, SPARE, 12, 7, 14, 6, 13, 6, 12, 6);
        CHECK.done("sort CARDS with like tags", house, house.sort(1), 4);
        things(house, 1, "14:6 13:6 12:6 12:7");
        Fixture.things(house, 2, Fixture.BADGES, SPARE, 14, 3, -1, 0, 14, 1, -1, 0);
        CHECK.done("sort BADGES", house, house.sort(2), 2);
        things(house, 2, "- - 14:1 14:3");
        Fixture.things(house, 3, Fixture.SHEETS, SPARE, 4, 3, 4, 0, -1, 0, 4, 2);
        CHECK.done("sort SHEETS", house, house.sort(3), 3);
        things(house, 3, "- 4:0 4:2 4:3");
        Fixture.things(house, 4, Fixture.DECKS, SPARE, 8, 2, 9, 2, 8, 1, 9, 1, -1, 0);
        CHECK.done("sort DECKS", house, house.sort(4), 5);
        things(house, 4, "- 8:1 9:1 8:2 9:2");
        likeOnesStay();
    }

    private static void likeOnesStay() {
        ColumnHouse house = new ColumnHouse();
        house.make(0, Fixture.CARDS, 3);
        house.make(1, Fixture.CARD, 5);
        house.make(2, Fixture.CARD, 5);
        house.putThing(0, 0, 1);
        house.putThing(0, 1, 2);
        house.make(3, Fixture.CARDS, 3);
        house.putThing(3, 1, 1);
        house.putThing(3, 2, 2);
        // Each place gets another thing, though the tags at place 1 are like.
        CHECK.done("sort CARDS with one tag", house, house.sort(0), 3);
        CHECK.done("like ones stay as they stood", house, house.alike(0, 3), 1);
    }

    private static void turned(int n, String want) {
        ColumnHouse house = new ColumnHouse();
        Fixture.row(house, 0, Fixture.INTS, 1, 2, 3, 4, 5);
        CHECK.done("turn by " + n, house, house.turn(0, n), 5);
        values(house, 0, want);
    }

    private static void promise20Turn() {
        turned(0, "1 2 3 4 5");
        turned(1, "5 1 2 3 4");
        turned(2, "4 5 1 2 3");
        turned(-1, "2 3 4 5 1");
        turned(-2, "3 4 5 1 2");
        turned(5, "1 2 3 4 5");
        turned(-5, "1 2 3 4 5");
        turned(11, "5 1 2 3 4");
        turned(Integer.MAX_VALUE, "4 5 1 2 3");
        turned(Integer.MIN_VALUE, "4 5 1 2 3");
        ColumnHouse house = new ColumnHouse();
        for (int kind = 0; kind <= 11; kind++) {
            house.make(0, kind, 0);
            CHECK.done("turn of no place", house, house.turn(0, 3), 0);
        }
        Fixture.things(house, 1, Fixture.CARDS, SPARE, 12, 1, -1, 0, 14, 3);
        CHECK.done("turn CARDS", house, house.turn(1, 1), 3);
        things(house, 1, "14:3 12:1 -");
        Fixture.row(house, 2, Fixture.DOUBLES, 8, 16);
        CHECK.done("turn DOUBLES", house, house.turn(2, -1), 2);
        values(house, 2, "2.0 1.0");
        CHECK.refusedColumns("turn", (h, c) -> h.turn(c, 1));
        CHECK.refused(2, "turn NOTHING", h -> h.turn(10, 1));
        CHECK.refused(3, "turn a card", h -> h.turn(9, 1));
    }
}
