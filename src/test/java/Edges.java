import java.util.function.ToDoubleFunction;

/** What the tests of single sentences share: a house with all kinds in it, and what a refused call leaves as it was. */
final class Edges {
    static final int NOTHING = 0;
    static final int INTS = 1;
    static final int BYTES = 2;
    static final int LONGS = 3;
    static final int DOUBLES = 4;
    static final int FLAGS = 5;
    static final int CARDS = 6;
    static final int BADGES = 7;
    static final int SHEETS = 8;
    static final int DECKS = 9;
    static final int CARD = 10;
    static final int SPARE = 11;

    /** Numbers that are none of 0 .. most: the next ones on each side, and the farthest. */
    static int[] outside(int most) {
        return new int[] {-1, most + 1, Integer.MIN_VALUE, Integer.MAX_VALUE};
    }

    /** The sorts that each sort goes into, as the document lists them. */
    private static final String[] GOES = {"0", "134567", "24567", "34567", "4567", "567", "67", "7"};

    /** The kinds that fit each row of things, as the document lists them. */
    private static final int[][] FITS = {{12, 13, 14}, {14}, {4}, {8, 9}};

    final Due due = new Due();

    static boolean goes(int sort, int wanted) {
        return GOES[sort].indexOf('0' + wanted) >= 0;
    }

    static boolean fits(int thing, int row) {
        for (int kind : row < 8 ? new int[0] : FITS[row - 8]) {
            if (kind == thing) {
                return true;
            }
        }
        return false;
    }

    /** The constants above name its columns; column NOTHING and column SPARE hold NOTHING. */
    static ColumnHouse house() {
        ColumnHouse house = new ColumnHouse();
        Fixture.row(house, INTS, 4, 5, -3, 5);
        Fixture.row(house, BYTES, 1, 2, 0, 1);
        Fixture.row(house, LONGS, 5, 1L << 60, -9, 4);
        Fixture.row(house, DOUBLES, 7, 4, -16, 2, 8, 8, 1);
        Fixture.row(house, FLAGS, 0, 1, 0, 1);
        Fixture.things(house, BADGES, 9, CARD, 14, 5, -1, 0, -1, 0);
        Fixture.things(house, CARDS, 8, CARD, 14, 7, -1, 0, 12, 9);
        house.make(SHEETS, 10, 2);
        house.putThing(SHEETS, 0, INTS);
        house.make(DECKS, 11, 2);
        house.putThing(DECKS, 0, CARDS);
        return house;
    }

    /** All that can be seen of a house whose columns NOTHING and SPARE hold NOTHING, as they do afterwards. */
    static String seen(ColumnHouse house) {
        StringBuilder text = new StringBuilder();
        for (int c = 0; c < 12; c++) {
            text.append(house.kind(c)).append(' ');
        }
        for (int c = 0; c < 12; c++) {
            int kind = house.kind(c);
            if (c != SPARE && kind >= 0) {
                text.append("| ").append(kind >= 12 ? String.valueOf(house.tag(c)) : inRow(house, c));
            }
        }
        return text.toString();
    }

    static String inRow(ColumnHouse house, int c) {
        if (house.kind(c) <= 7) {
            return Fixture.values(house, c);
        }
        String things = Fixture.thingsIn(house, c, SPARE);
        house.lay(NOTHING, SPARE);
        return things;
    }

    void refused(int reason, String name, ToDoubleFunction<ColumnHouse> call) {
        refused(reason, name, house(), call);
    }

    /** The call answers 0, WHY becomes this reason from another one, and all else is as it was. */
    void refused(int reason, String name, ColumnHouse house, ToDoubleFunction<ColumnHouse> call) {
        String before = seen(house);
        otherAnswers(house);
        anotherWhy(house, reason);
        due.point(name, call.applyAsDouble(house), 0.0);
        due.is(name + ": why", house.why(), reason);
        due.text(name + ": all else", seen(house), before);
    }

    /** The call is done: it answers this, and WHY becomes 0 from another reason. */
    void done(String name, ColumnHouse house, double want, ToDoubleFunction<ColumnHouse> call) {
        anotherWhy(house, 0);
        due.point(name, call.applyAsDouble(house), want);
        due.is(name + ": why", house.why(), 0);
    }

    void row(String name, ColumnHouse house, int c, String want) {
        due.text(name + ": row " + c, inRow(house, c), want);
    }

    /** The calls ahead of a refused one answer other numbers than 0: none of them may come again. */
    private static void otherAnswers(ColumnHouse house) {
        house.make(SPARE, 7, 1);
        house.put(SPARE, 0, 7, 0, 3);
        house.point(SPARE, 0, 7);
        house.make(SPARE, 5, 1);
        house.put(SPARE, 0, 5, -1, -9);
        house.number(SPARE, 0, 5);
        house.find(SPARE, 0, 5, -1, -9);
        house.lay(NOTHING, SPARE);
    }

    /** Leaves a WHY that is neither 0 nor this reason. */
    private static void anotherWhy(ColumnHouse house, int reason) {
        if (reason == 1) {
            house.sum(SPARE);
        } else {
            house.kind(-1);
        }
    }
}
