import java.util.function.ToDoubleFunction;

/** A house with something of every kind, and what the tests of the promises ask of it. */
final class Fixture {
    static final int FLAGS = 0;
    static final int BYTES = 1;
    static final int CHARS = 2;
    static final int SHORTS = 3;
    static final int INTS = 4;
    static final int LONGS = 5;
    static final int FLOATS = 6;
    static final int DOUBLES = 7;
    static final int CARDS = 8;
    static final int BADGES = 9;
    static final int SHEETS = 10;
    static final int DECKS = 11;
    static final int CARD = 12;
    static final int PASS = 13;
    static final int BADGE = 14;

    final Due due = new Due();

    /**
     * Columns: 0 FLAGS, 1 BYTES, 2 CHARS, 3 INTS, 4 LONGS, 5 DOUBLES, 6 CARDS, 7 BADGES (three places each),
     * 8 SHEETS, 11 DECKS (two places), 9 a CARD, 10 NOTHING.
     */
    static ColumnHouse furnished() {
        ColumnHouse house = new ColumnHouse();
        house.make(9, BADGE, 5);
        house.make(6, CARDS, 3);
        house.make(7, BADGES, 3);
        house.putThing(6, 2, 9);
        house.putThing(7, 0, 9);
        house.make(9, CARD, 9);
        house.putThing(6, 0, 9);
        row(house, 0, FLAGS, 1, 0, 1);
        row(house, 1, BYTES, 2, 0, 1);
        row(house, 2, CHARS, 65535, 7, 0);
        row(house, 3, INTS, 5, -3, 5);
        row(house, 4, LONGS, 1L << 60, -9, 4);
        row(house, 5, DOUBLES, 4, -16, 2);
        house.make(8, SHEETS, 2);
        house.putThing(8, 0, 3);
        house.make(11, DECKS, 2);
        house.putThing(11, 0, 6);
        return house;
    }

    static void row(ColumnHouse house, int c, int kind, long... told) {
        house.make(c, kind, told.length);
        for (int i = 0; i < told.length; i++) {
            put(house, c, i, kind, told[i]);
        }
    }

    static int put(ColumnHouse house, int c, int i, int sort, long v) {
        return house.put(c, i, sort, (int) (v >> 32), (int) v);
    }

    static int find(ColumnHouse house, int c, int i, int sort, long v) {
        return house.find(c, i, sort, (int) (v >> 32), (int) v);
    }

    /** A row of things whose places hold new ones: each of a kind, with a tag or length. */
    static void things(ColumnHouse house, int c, int kind, int spare, int... kindsAndTags) {
        house.make(c, kind, kindsAndTags.length / 2);
        for (int i = 0; i < kindsAndTags.length / 2; i++) {
            if (kindsAndTags[2 * i] >= 0) {
                house.make(spare, kindsAndTags[2 * i], kindsAndTags[2 * i + 1]);
                house.putThing(c, i, spare);
            }
        }
    }

    /** The values of the plain row in column c. */
    static String values(ColumnHouse house, int c) {
        StringBuilder text = new StringBuilder();
        int kind = house.kind(c);
        int places = house.places(c);
        for (int i = 0; i < places; i++) {
            text.append(i == 0 ? "" : " ");
            if (kind <= LONGS) {
                text.append(house.number(c, i, kind));
            } else {
                text.append(house.point(c, i, kind));
            }
        }
        return text.toString();
    }

    /** The things in the row in column c, each as its kind and its tag or length; they pass through column spare. */
    static String thingsIn(ColumnHouse house, int c, int spare) {
        StringBuilder text = new StringBuilder();
        int places = house.places(c);
        for (int i = 0; i < places; i++) {
            text.append(i == 0 ? "" : " ");
            house.take(c, i, spare);
            int kind = house.kind(spare);
            text.append(kind < 0 ? "-" : kind + ":" + (kind >= CARD ? house.tag(spare) : house.places(spare)));
        }
        return text.toString();
    }

    /** All that can be seen of a furnished house; column 10 ends with NOTHING. */
    private static String seen(ColumnHouse house) {
        StringBuilder text = new StringBuilder();
        for (int c = 0; c < 12; c++) {
            text.append(house.kind(c)).append(' ');
        }
        for (int c = 0; c < 12; c++) {
            int kind = house.kind(c);
            if (c != 10 && kind >= 0) {
                text.append("| ").append(kind >= CARD ? String.valueOf(house.tag(c))
                        : kind >= CARDS ? thingsIn(house, c, 10) : values(house, c));
            }
        }
        house.take(7, 1, 10);
        return text.toString();
    }

    /** The call is refused in a furnished house with this reason, and changes nothing else. */
    void refused(int reason, String name, ToDoubleFunction<ColumnHouse> call) {
        ColumnHouse house = furnished();
        String before = seen(house);
        due.point(name, call.applyAsDouble(house), 0.0);
        due.is(name + ": why", house.why(), reason);
        due.text(name + ": all else", seen(house), before);
    }

    /** The call refuses, by reason 1, each number that is no column. */
    void refusedColumns(String name, ColumnCall call) {
        for (int c : new int[] {-1, 12, Integer.MIN_VALUE, Integer.MAX_VALUE}) {
            refused(1, name + " with column " + c, house -> call.of(house, c));
        }
    }

    interface ColumnCall {
        double of(ColumnHouse house, int c);
    }

    void done(String name, ColumnHouse house, long got, long want) {
        due.is(name, got, want);
        due.is(name + ": why", house.why(), 0);
    }

    void donePoint(String name, ColumnHouse house, double got, double want) {
        due.point(name, got, want);
        due.is(name + ": why", house.why(), 0);
    }
}
