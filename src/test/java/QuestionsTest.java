/** Promises 21 to 24: questions about whole columns. */
public final class QuestionsTest {
    private static final Fixture CHECK = new Fixture();

    public static void main(String[] args) {
        promise21Sum();
        promise22Total();
        promise23Find();
        promise23Refusals();
        promise24AlikeValues();
        promise24AlikeThings();
        promise24Refusals();
        CHECK.due.end();
    }

    private static void sums(int kind, long[] told, long want) {
        ColumnHouse house = new ColumnHouse();
        Fixture.row(house, 0, kind, told);
        CHECK.done("sum of " + kind, house, house.sum(0), want);
    }

    private static void promise21Sum() {
        sums(1, new long[] {127, 127, -128}, 126);
        sums(2, new long[] {65535, 65535}, 131070);
        sums(3, new long[] {-32768, -32768}, -65536);
        sums(4, new long[] {Integer.MAX_VALUE, Integer.MAX_VALUE}, 4294967294L);
        sums(5, new long[] {Long.MAX_VALUE, 1}, Long.MIN_VALUE);
        sums(5, new long[] {(1L << 53) + 1, 1L << 53}, (1L << 54) + 1);
        for (int kind = 1; kind <= 5; kind++) {
            sums(kind, new long[] {}, 0);
        }
        CHECK.refusedColumns("sum", (h, c) -> h.sum(c));
        CHECK.refused(2, "sum of NOTHING", h -> h.sum(10));
        CHECK.refused(3, "sum of a card", h -> h.sum(9));
        for (int c : new int[] {0, 5, 6, 7, 8, 11}) {
            CHECK.refused(6, "sum of column " + c, h -> h.sum(c));
        }
        refusedKinds(new int[] {0, 6, 7, 8, 9, 10, 11}, true);
    }

    /** The kind counts even where there is no place. */
    private static void refusedKinds(int[] kinds, boolean sum) {
        for (int kind : kinds) {
            ColumnHouse house = new ColumnHouse();
            house.make(0, kind, 0);
            CHECK.due.point("added up of kind " + kind, sum ? house.sum(0) : house.total(0), 0.0);
            CHECK.due.is("its why", house.why(), 6);
        }
    }

    private static void totals(int kind, long[] told, double want) {
        ColumnHouse house = new ColumnHouse();
        Fixture.row(house, 0, kind, told);
        CHECK.donePoint("total of " + kind, house, house.total(0), want);
    }

    private static void promise22Total() {
        totals(1, new long[] {127, -128}, -1.0);
        totals(2, new long[] {65535, 65535}, 131070.0);
        totals(3, new long[] {-32768, 1}, -32767.0);
        totals(4, new long[] {Integer.MAX_VALUE, Integer.MAX_VALUE}, 4294967294.0);
        totals(5, new long[] {Long.MAX_VALUE, 1}, 0x1p63);
        totals(6, new long[] {(1L << 24) + 1, 8}, 2097153.0);
        totals(7, new long[] {1, 2, -7}, -0.5);
        // One after the other: each 1 is lost beside 2^53, though both together are not.
        totals(5, new long[] {1L << 53, 1, 1}, 0x1p53);
        totals(5, new long[] {1, 1, 1L << 53}, 0x1p53 + 2);
        // Not as FLOATS: 2^24 and 1 more is a DOUBLE.
        totals(6, new long[] {1L << 27, 8}, 16777217.0);
        totals(7, new long[] {}, 0.0);
        CHECK.refusedColumns("total", (h, c) -> h.total(c));
        CHECK.refused(2, "total of NOTHING", h -> h.total(10));
        CHECK.refused(3, "total of a card", h -> h.total(9));
        for (int c : new int[] {0, 6, 7, 8, 11}) {
            CHECK.refused(6, "total of column " + c, h -> h.total(c));
        }
        refusedKinds(new int[] {0, 8, 9, 10, 11}, false);
    }

    private static void finds(ColumnHouse house, int i, int sort, long v, int want) {
        CHECK.done("find of sort " + sort + " from " + i, house, Fixture.find(house, 0, i, sort, v), want);
    }

    private static void promise23Find() {
        ColumnHouse house = new ColumnHouse();
        Fixture.row(house, 0, Fixture.INTS, 7, 1, 7, -1, 0);
        finds(house, 0, 4, 7, 0);
        finds(house, 1, 4, 7, 2);
        finds(house, 2, 5, 7, 2);
        finds(house, 3, 4, 7, -1);
        finds(house, -1, 1, 7, 0);
        finds(house, Integer.MIN_VALUE, 2, 7, 0);
        finds(house, 5, 4, 0, -1);
        finds(house, Integer.MAX_VALUE, 4, 0, -1);
        finds(house, 0, 6, 56, 0);
        finds(house, 0, 7, 8, 1);
        finds(house, 0, 7, 9, -1);
        finds(house, 0, 1, 255, 3);
        finds(house, 0, 2, 65535, -1);
        finds(house, 0, 0, 1, -1);
        finds(house, 0, 0, 0, -1);
        finds(house, 0, 5, 1L << 32, -1);
        finds(house, 0, 4, 1L << 32, 4);
        Fixture.row(house, 0, Fixture.FLAGS, 0, 1);
        finds(house, 0, 0, 1, 1);
        finds(house, 0, 0, 2, 0);
        finds(house, 0, 4, 1, -1);
        finds(house, 0, 7, 8, -1);
        Fixture.row(house, 0, Fixture.LONGS, (1L << 53) + 1, 1L << 53);
        finds(house, 0, 5, 1L << 53, 1);
        finds(house, 0, 7, 1L << 56, 0);
        finds(house, 0, 6, 1L << 56, 0);
        Fixture.row(house, 0, Fixture.FLOATS, 1, 1L << 56);
        finds(house, 0, 5, (1L << 53) + 1, 1);
        finds(house, 0, 7, 1, 0);
        house.make(0, Fixture.DOUBLES, 0);
        finds(house, 0, 7, 0, -1);
    }

    private static void promise23Refusals() {
        CHECK.refusedColumns("find", (h, c) -> h.find(c, 0, 4, 0, 1));
        for (int sort : new int[] {-1, 8, Integer.MIN_VALUE, Integer.MAX_VALUE}) {
            CHECK.refused(1, "find of sort " + sort, h -> h.find(3, 0, sort, 0, 5));
            CHECK.refused(1, "find: sort before NOTHING", h -> h.find(10, 0, sort, 0, 5));
            CHECK.refused(1, "find: sort before card", h -> h.find(9, 0, sort, 0, 5));
            CHECK.refused(1, "find: sort before kind", h -> h.find(6, 0, sort, 0, 5));
        }
        CHECK.refused(2, "find in NOTHING", h -> h.find(10, 0, 4, 0, 5));
        CHECK.refused(3, "find in a card", h -> h.find(9, 0, 4, 0, 5));
        for (int c : new int[] {6, 7, 8, 11}) {
            CHECK.refused(6, "find in things", h -> h.find(c, 0, 4, 0, 5));
            CHECK.refused(6, "find in things from afar", h -> h.find(c, 99, 4, 0, 5));
        }
    }

    private static void alike(int left, long[] ofLeft, int right, long[] ofRight, int want) {
        ColumnHouse house = new ColumnHouse();
        Fixture.row(house, 0, left, ofLeft);
        Fixture.row(house, 1, right, ofRight);
        CHECK.done("alike " + left + " and " + right, house, house.alike(0, 1), want);
        CHECK.done("alike " + right + " and " + left, house, house.alike(1, 0), want);
    }

    private static void promise24AlikeValues() {
        alike(4, new long[] {1, 2}, 4, new long[] {1, 2}, 1);
        alike(4, new long[] {1, 2}, 4, new long[] {1, 3}, 0);
        alike(4, new long[] {1, 2}, 4, new long[] {1, 2, 0}, 0);
        alike(1, new long[] {1, -2}, 5, new long[] {1, -2}, 1);
        alike(3, new long[] {-1}, 2, new long[] {65535}, 0);
        alike(4, new long[] {1, 2}, 7, new long[] {8, 16}, 1);
        alike(4, new long[] {1, 2}, 6, new long[] {8, 17}, 0);
        alike(5, new long[] {(1L << 53) + 1}, 7, new long[] {1L << 56}, 1);
        alike(5, new long[] {(1L << 53) + 1}, 5, new long[] {1L << 53}, 0);
        // Both become DOUBLES, not FLOATS.
        alike(4, new long[] {(1 << 24) + 1}, 6, new long[] {1L << 27}, 0);
        alike(0, new long[] {1, 0}, 0, new long[] {1, 0}, 1);
        alike(0, new long[] {1, 0}, 0, new long[] {1, 1}, 0);
        alike(0, new long[] {1, 0}, 4, new long[] {1, 0}, 0);
        alike(0, new long[] {1}, 7, new long[] {8}, 0);
        alike(0, new long[] {}, 4, new long[] {}, 1);
        ColumnHouse house = new ColumnHouse();
        Fixture.row(house, 0, Fixture.INTS, 1, 2);
        CHECK.done("alike with itself", house, house.alike(0, 0), 1);
    }

    private static void promise24AlikeThings() {
        ColumnHouse house = new ColumnHouse();
        house.make(0, Fixture.CARDS, 2);
        house.make(1, Fixture.BADGES, 2);
        house.make(2, Fixture.SHEETS, 2);
        house.make(3, Fixture.INTS, 2);
        CHECK.done("all NOTHING", house, house.alike(0, 1), 1);
        CHECK.done("all NOTHING, of other kinds", house, house.alike(0, 2), 1);
        CHECK.done("NOTHING and values", house, house.alike(0, 3), 0);
        CHECK.done("values and NOTHING", house, house.alike(3, 0), 0);
        house.make(4, Fixture.BADGE, 6);
        house.make(5, Fixture.BADGE, 6);
        house.putThing(0, 1, 4);
        CHECK.done("a BADGE and NOTHING", house, house.alike(0, 1), 0);
        CHECK.done("NOTHING and a BADGE", house, house.alike(1, 0), 0);
        house.putThing(1, 1, 5);
        CHECK.done("two BADGES with one tag", house, house.alike(0, 1), 0);
        house.putThing(1, 1, 4);
        CHECK.done("the same BADGE", house, house.alike(0, 1), 1);
        house.make(6, Fixture.SHEETS, 2);
        house.make(7, Fixture.INTS, 2);
        house.putThing(2, 0, 3);
        house.putThing(6, 0, 7);
        CHECK.done("two sheets with like values", house, house.alike(2, 6), 0);
        house.putThing(6, 0, 3);
        CHECK.done("the same sheet", house, house.alike(2, 6), 1);
        house.make(8, Fixture.DECKS, 0);
        house.make(9, Fixture.FLOATS, 0);
        CHECK.done("no place of either", house, house.alike(8, 9), 1);
    }

    private static void promise24Refusals() {
        CHECK.refusedColumns("alike c", (h, c) -> h.alike(c, 3));
        CHECK.refusedColumns("alike d", (h, d) -> h.alike(3, d));
        CHECK.refusedColumns("alike d, before NOTHING", (h, d) -> h.alike(10, d));
        CHECK.refusedColumns("alike c, before card", (h, c) -> h.alike(c, 9));
        CHECK.refused(2, "alike with NOTHING", h -> h.alike(3, 10));
        CHECK.refused(2, "alike NOTHING", h -> h.alike(10, 3));
        CHECK.refused(2, "alike: both NOTHING", h -> h.alike(10, 10));
        CHECK.refused(2, "alike: NOTHING before card", h -> h.alike(9, 10));
        CHECK.refused(3, "alike with a card", h -> h.alike(3, 9));
        CHECK.refused(3, "alike a card", h -> h.alike(9, 3));
    }
}
