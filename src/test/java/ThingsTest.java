/** Promises 1 to 7 and 25: columns and what they hold. */
public final class ThingsTest {
    private static final Fixture CHECK = new Fixture();

    public static void main(String[] args) {
        promise1NewObject();
        promise2Make();
        promise3Lay();
        promise4Places();
        promise5Kind();
        promise6Tag();
        promise7Load();
        promise25Why();
        CHECK.due.end();
    }

    private static void promise1NewObject() {
        ColumnHouse house = new ColumnHouse();
        CHECK.due.is("why of a new one", house.why(), 0);
        for (int c = 0; c < 12; c++) {
            CHECK.done("kind of new column " + c, house, house.kind(c), -1);
        }
        ColumnHouse other = new ColumnHouse();
        other.make(0, Fixture.INTS, 3);
        CHECK.done("houses are apart", house, house.kind(0), -1);
    }

    private static void promise2Make() {
        for (int k = 0; k <= 11; k++) {
            for (int n : new int[] {0, 1, 24}) {
                ColumnHouse house = new ColumnHouse();
                CHECK.done("make row", house, house.make(k, k, n), 1);
                CHECK.done("its kind", house, house.kind(k), k);
                CHECK.done("its places", house, house.places(k), n);
                for (int i = 0; i < n; i++) {
                    CHECK.done("its first places", house, house.what(k, i), k <= 7 ? k : -1);
                    if (k <= 5) {
                        CHECK.done("its first numbers", house, house.number(k, i, k), 0);
                    } else if (k <= 7) {
                        CHECK.donePoint("its first points", house, house.point(k, i, k), 0.0);
                    }
                }
            }
        }
        for (int k = 12; k <= 14; k++) {
            for (int n : new int[] {0, 25, -1, Integer.MIN_VALUE, Integer.MAX_VALUE}) {
                ColumnHouse house = new ColumnHouse();
                CHECK.done("make card", house, house.make(11, k, n), 1);
                CHECK.done("its kind", house, house.kind(11), k);
                CHECK.done("its tag", house, house.tag(11), n);
            }
        }
        ColumnHouse house = Fixture.furnished();
        house.lay(3, 10);
        CHECK.done("make over a row", house, house.make(3, Fixture.INTS, 3), 1);
        CHECK.done("it is a new one", house, house.number(3, 0, 4), 0);
        CHECK.done("the old one stays", house, house.number(10, 0, 4), 5);
        CHECK.refusedColumns("make", (h, c) -> h.make(c, 4, 3));
        for (int k : new int[] {-1, 15, Integer.MIN_VALUE, Integer.MAX_VALUE}) {
            CHECK.refused(1, "make of kind " + k, h -> h.make(3, k, 3));
        }
        for (int k = 0; k <= 11; k++) {
            int kind = k;
            for (int n : new int[] {-1, 25, Integer.MIN_VALUE, Integer.MAX_VALUE}) {
                CHECK.refused(1, "make of length " + n, h -> h.make(3, kind, n));
            }
        }
    }

    private static void promise3Lay() {
        ColumnHouse house = Fixture.furnished();
        CHECK.done("lay a row", house, house.lay(3, 10), 1);
        Fixture.put(house, 10, 0, 4, 77);
        CHECK.done("it is the same row", house, house.number(3, 0, 4), 77);
        CHECK.done("lay a card", house, house.lay(9, 0), 1);
        CHECK.done("the card", house, house.tag(0), 9);
        CHECK.done("lay on itself", house, house.lay(9, 9), 1);
        CHECK.done("it stays", house, house.tag(9), 9);
        house = Fixture.furnished();
        CHECK.done("lay NOTHING", house, house.lay(10, 3), 0);
        CHECK.done("NOTHING there", house, house.kind(3), -1);
        CHECK.refusedColumns("lay from", (h, c) -> h.lay(c, 3));
        CHECK.refusedColumns("lay to", (h, c) -> h.lay(3, c));
    }

    private static void promise4Places() {
        ColumnHouse house = Fixture.furnished();
        CHECK.done("places of INTS", house, house.places(3), 3);
        CHECK.done("places of SHEETS", house, house.places(8), 2);
        CHECK.refusedColumns("places", (h, c) -> h.places(c));
        CHECK.refused(2, "places of NOTHING", h -> h.places(10));
        CHECK.refused(3, "places of a card", h -> h.places(9));
    }

    private static void promise5Kind() {
        int[] kinds = {0, 1, 2, 4, 5, 7, 8, 9, 10, 12, -1, 11};
        ColumnHouse house = Fixture.furnished();
        for (int c = 0; c < 12; c++) {
            CHECK.done("kind in " + c, house, house.kind(c), kinds[c]);
        }
        CHECK.refusedColumns("kind", (h, c) -> h.kind(c));
    }

    private static void promise6Tag() {
        ColumnHouse house = new ColumnHouse();
        for (int k = 12; k <= 14; k++) {
            house.make(k - 12, k, -40 - k);
            CHECK.done("tag of " + k, house, house.tag(k - 12), -40 - k);
        }
        CHECK.refusedColumns("tag", (h, c) -> h.tag(c));
        CHECK.refused(5, "tag of NOTHING", h -> h.tag(10));
        CHECK.refused(5, "tag of a plain row", h -> h.tag(3));
        CHECK.refused(5, "tag of CARDS", h -> h.tag(6));
    }

    private static void promise7Load() {
        int[] tags = {0, 5, -5, Integer.MAX_VALUE, Integer.MIN_VALUE, 1 << 30};
        int[] loads = {1, 11, -9, -1, 1, Integer.MIN_VALUE + 1};
        for (int k = 0; k < tags.length; k++) {
            ColumnHouse house = new ColumnHouse();
            house.make(0, Fixture.CARD, tags[k]);
            house.make(1, Fixture.PASS, tags[k]);
            house.make(2, Fixture.BADGE, tags[k]);
            CHECK.done("load of a CARD", house, house.load(0), tags[k]);
            CHECK.done("load of a PASS", house, house.load(1), tags[k]);
            CHECK.done("load of a BADGE", house, house.load(2), loads[k]);
        }
        CHECK.refusedColumns("load", (h, c) -> h.load(c));
        CHECK.refused(5, "load of NOTHING", h -> h.load(10));
        CHECK.refused(5, "load of a plain row", h -> h.load(3));
        CHECK.refused(5, "load of BADGES", h -> h.load(7));
    }

    private static void promise25Why() {
        ColumnHouse house = Fixture.furnished();
        house.places(10);
        CHECK.due.is("why", house.why(), 2);
        CHECK.due.is("why again: it is not of why()", house.why(), 2);
        house.places(9);
        CHECK.due.is("of the latest", house.why(), 3);
        house.sum(3);
        CHECK.due.is("0 after sum", house.why(), 0);
        house.places(9);
        house.total(3);
        CHECK.due.is("0 after total", house.why(), 0);
        house.places(9);
        house.number(3, 0, 4);
        CHECK.due.is("0 after number", house.why(), 0);
        house.places(9);
        house.point(3, 0, 7);
        CHECK.due.is("0 after point", house.why(), 0);
    }
}
