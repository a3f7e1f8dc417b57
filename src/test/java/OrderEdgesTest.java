/** Promises 18 to 20, and rows that are the same one, sentence by sentence: merge, sort and turn. */
public final class OrderEdgesTest {
    private static final Edges EDGES = new Edges();

    private static final int LEAST = Integer.MIN_VALUE;
    private static final int MOST = Integer.MAX_VALUE;

    public static void main(String[] args) {
        readAsItWasBefore();
        mergeTheLessOne();
        mergeTheOthers();
        mergeFromNoPlaceToTheMost();
        mergeNoRows();
        mergeNoPlainRow();
        mergeJustOneOfFlags();
        mergeOtherLengths();
        mergeWhatDoesNotGo();
        mergeTheFirstPlaceAmiss();
        sortValues();
        sortCards();
        sortRows();
        sortLikeOnesStay();
        sortCountsChangedPlaces();
        sortFromNoPlaceToTheMost();
        sortRefused();
        turnOn();
        turnBack();
        turnFarther();
        turnFromNoPlaceToTheMost();
        turnRefused();
        EDGES.due.end();
    }

    private static void readAsItWasBefore() {
        EDGES.due.sentence("of rows that two columns hold, and that are the same one, what is read is what was there before the call");
        ColumnHouse house = sameOne(1, 2, 0, 3);
        EDGES.done("copy", house, 4, h -> h.copy(1, 2));
        EDGES.row("copy", house, 1, "1 2 0 3");
        house = sameOne(3, 1, 0, 2);
        EDGES.done("merge: c and e", house, 4, h -> h.merge(1, 5, 2));
        EDGES.row("merge: c and e", house, 1, "3 1 0 2");
        EDGES.done("merge: d and e", house, 4, h -> h.merge(5, 1, 2));
        EDGES.row("merge: d and e", house, 1, "3 1 0 2");
        house.make(6, 4, 8);
        EDGES.done("merge: c and d", house, 8, h -> h.merge(1, 2, 6));
        EDGES.row("merge: c and d", house, 6, "3 1 0 2 3 1 0 2");
        EDGES.done("merge: all three", house, 0, h -> h.merge(5, 5, 5));
        gatherAsItWasBefore();
        scatterAsItWasBefore();
    }

    /** Columns 1 and 2 hold this row of INTS, 3 and 4 rows of as many places, 5 a row of none. */
    private static ColumnHouse sameOne(long... told) {
        ColumnHouse house = new ColumnHouse();
        Fixture.row(house, 1, 4, told);
        house.lay(1, 2);
        Fixture.row(house, 3, 1, 3, 0, 1, 2);
        Fixture.row(house, 4, 4, 2, 3, 0, 1);
        house.make(5, 4, 0);
        return house;
    }

    private static void gatherAsItWasBefore() {
        ColumnHouse house = sameOne(1, 2, 0, 3);
        EDGES.done("gather: all three", house, 4, h -> h.gather(1, 2, 1));
        EDGES.row("gather: all three", house, 1, "2 0 1 3");
        house = sameOne(7, 8, 9, 10);
        EDGES.done("gather: c and d", house, 4, h -> h.gather(1, 3, 2));
        EDGES.row("gather: c and d", house, 1, "10 7 8 9");
        house = sameOne(1, 2, 0, 3);
        EDGES.done("gather: x and d", house, 4, h -> h.gather(4, 1, 2));
        EDGES.row("gather: x and d", house, 1, "3 0 2 1");
        house = sameOne(1, 2, 0, 3);
        EDGES.done("gather: c and x", house, 4, h -> h.gather(1, 2, 4));
        EDGES.row("gather: c and x", house, 4, "2 0 1 3");
    }

    private static void scatterAsItWasBefore() {
        ColumnHouse house = sameOne(1, 2, 0, 3);
        EDGES.done("scatter: all three", house, 4, h -> h.scatter(1, 2, 1));
        EDGES.row("scatter: all three", house, 1, "0 1 2 3");
        house = sameOne(7, 8, 9, 10);
        EDGES.done("scatter: c and d", house, 4, h -> h.scatter(1, 3, 2));
        EDGES.row("scatter: c and d", house, 1, "8 9 10 7");
        house = sameOne(1, 2, 0, 3);
        EDGES.done("scatter: x and d", house, 4, h -> h.scatter(4, 1, 2));
        EDGES.row("scatter: x and d", house, 1, "0 2 3 1");
        house = sameOne(1, 2, 0, 3);
        EDGES.done("scatter: c and x", house, 4, h -> h.scatter(1, 2, 4));
        EDGES.row("scatter: c and x", house, 4, "0 1 2 3");
    }

    /** The row that is merged out of these two, of the kind into. */
    private static void merged(String want, int into, int left, long[] ofLeft, int right, long[] ofRight) {
        ColumnHouse house = new ColumnHouse();
        Fixture.row(house, 1, left, ofLeft);
        Fixture.row(house, 2, right, ofRight);
        int n = ofLeft.length + ofRight.length;
        house.make(3, into, n);
        EDGES.done("merge", house, n, h -> h.merge(1, 2, 3));
        EDGES.row("merge", house, 3, want);
    }

    private static long[] told(long... values) {
        return values;
    }

    private static void mergeTheLessOne() {
        EDGES.due.sentence("merge: the next one of d comes, if it is LESS than that of c, else that of c");
        merged("1 2 3 4", 4, 4, told(1, 4), 4, told(2, 3));
        merged("1 1", 4, 4, told(1), 4, told(1));
        // Of like ones that of c comes first: the 0 after it comes before the other 1.
        merged("1 0 1 2", 4, 4, told(1, 0), 4, told(1, 2));
        merged("1 1 0 2", 4, 4, told(1, 2), 4, told(1, 0));
        // The rows need not be in order.
        merged("2 1 3 9 0", 4, 4, told(3, 9, 0), 4, told(2, 1));
        merged("0 1 0 1", 0, 0, told(1, 0), 0, told(0, 1));
    }

    private static void mergeTheOthers() {
        EDGES.due.sentence("merge: as long as there are places of both that were not used; then the others");
        merged("1 5 3 4", 4, 4, told(5, 3, 4), 4, told(1));
        merged("1 5 3 4", 4, 4, told(1), 4, told(5, 3, 4));
        merged("3 1 2", 4, 4, told(), 4, told(3, 1, 2));
        merged("3 1 2", 4, 4, told(3, 1, 2), 4, told());
        merged("", 4, 4, told(), 4, told());
    }

    private static void mergeFromNoPlaceToTheMost() {
        EDGES.due.sentence("merge: Answers how many places");
        for (int kind = 0; kind <= 7; kind++) {
            for (int[] n : new int[][] {{0, 0}, {0, 1}, {1, 0}, {12, 12}, {24, 0}, {0, 24}, {1, 23}}) {
                ColumnHouse house = new ColumnHouse();
                house.make(1, kind, n[0]);
                house.make(2, kind, n[1]);
                house.make(3, kind, n[0] + n[1]);
                EDGES.done("merge " + n[0] + " and " + n[1], house, n[0] + n[1], h -> h.merge(1, 2, 3));
            }
        }
    }

    private static void mergeNoRows() {
        EDGES.due.sentence("merge: 1; 2 (of one of the three); 3 (of one of them)");
        for (int c : Edges.outside(11)) {
            EDGES.refused(1, "merge " + c, h -> h.merge(c, Edges.LONGS, Edges.DOUBLES));
            EDGES.refused(1, "merge with " + c, h -> h.merge(Edges.INTS, c, Edges.DOUBLES));
            EDGES.refused(1, "merge into " + c, h -> h.merge(Edges.INTS, Edges.LONGS, c));
        }
        int[] columns = {Edges.NOTHING, Edges.CARD};
        for (int k = 0; k < 2; k++) {
            int c = columns[k];
            EDGES.refused(2 + k, "merge", h -> h.merge(c, Edges.LONGS, Edges.DOUBLES));
            EDGES.refused(2 + k, "merge with", h -> h.merge(Edges.INTS, c, Edges.DOUBLES));
            EDGES.refused(2 + k, "merge into", h -> h.merge(Edges.INTS, Edges.LONGS, c));
            EDGES.refused(2, "merge a card", h -> h.merge(Edges.CARD, Edges.NOTHING, c));
            EDGES.refused(2, "merge into a card", h -> h.merge(c, Edges.NOTHING, Edges.CARD));
            EDGES.refused(2, "merge with a card", h -> h.merge(Edges.NOTHING, Edges.CARD, c));
        }
    }

    private static void mergeNoPlainRow() {
        EDGES.due.sentence("merge: 6: one of the three is no PLAIN ROW; told before 4 and 5");
        for (int kind = 8; kind <= 11; kind++) {
            for (int n : new int[] {0, 1, 3}) {
                ColumnHouse house = new ColumnHouse();
                house.make(1, 4, 3);
                house.make(2, 4, 3 + n);
                house.make(3, 1, 0);
                house.make(4, kind, n);
                EDGES.refused(6, "merge " + kind, house, h -> h.merge(4, 1, 2));
                EDGES.refused(6, "merge with " + kind, house, h -> h.merge(1, 4, 2));
                EDGES.refused(6, "merge into " + kind, house, h -> h.merge(1, 3, 4));
            }
            for (int n : new int[] {0, 1, 3}) {
                ColumnHouse house = new ColumnHouse();
                house.make(1, 4, 2);
                house.make(3, 1, 0);
                house.make(4, kind, n);
                EDGES.refused(6, "merge " + kind + ": before lengths", house, h -> h.merge(4, 1, 3));
                EDGES.refused(6, "merge three of " + kind, house, h -> h.merge(4, 4, 4));
            }
        }
    }

    private static void mergeJustOneOfFlags() {
        EDGES.due.sentence("merge: 6: just one of c, d is FLAGS; told before 4 and 5");
        for (int kind = 1; kind <= 7; kind++) {
            for (int into = 0; into <= 7; into++) {
                for (int n = 0; n <= 1; n++) {
                    ColumnHouse house = new ColumnHouse();
                    house.make(1, 0, n);
                    house.make(2, kind, n);
                    house.make(3, into, 2 * n);
                    house.make(4, into, 3);
                    EDGES.refused(6, "merge FLAGS with " + kind, house, h -> h.merge(1, 2, 3));
                    EDGES.refused(6, "merge " + kind + " with FLAGS", house, h -> h.merge(2, 1, 3));
                    EDGES.refused(6, "merge FLAGS with " + kind + ": before lengths", house, h -> h.merge(1, 2, 4));
                }
            }
        }
        merged("0 1", 0, 0, told(1), 0, told(0));
    }

    private static void mergeOtherLengths() {
        EDGES.due.sentence("merge: 4: e is not as long as c and d together; told before 5");
        for (int[] n : new int[][] {{0, 0, 1}, {1, 0, 0}, {0, 1, 2}, {2, 3, 4}, {2, 3, 6}, {12, 12, 23}, {12, 13, 24}, {24, 24, 24}}) {
            for (int into = 0; into <= 7; into++) {
                ColumnHouse house = new ColumnHouse();
                house.make(1, 5, n[0]);
                house.make(2, 5, n[1]);
                house.make(3, into, n[2]);
                EDGES.refused(4, "merge into " + n[2] + " of " + into, house, h -> h.merge(1, 2, 3));
            }
        }
    }

    private static void mergeWhatDoesNotGo() {
        EDGES.due.sentence("merge: place by place of e 5: the value doesn't go into e's sort");
        for (int from = 0; from <= 7; from++) {
            for (int into = 0; into <= 7; into++) {
                if (!Edges.goes(from, into)) {
                    ColumnHouse house = new ColumnHouse();
                    house.make(1, from, 1);
                    Fixture.row(house, 2, from, 8);
                    Fixture.row(house, 3, into, 1, 1);
                    EDGES.refused(5, "merge " + from + " into " + into, house, h -> h.merge(1, 2, 3));
                    house.make(1, from, 0);
                    house.make(3, into, 0);
                    EDGES.done("where no place is none is amiss", house, 0, h -> h.merge(1, 1, 3));
                }
            }
        }
    }

    /** The LONGS bring the value that doesn't go: as the first, as the last, or not at all. */
    private static void mergeTheFirstPlaceAmiss() {
        EDGES.due.sentence("merge: A refused call answers 0 and changes nothing but WHY, at whichever place it is amiss");
        for (long value : new long[] {0, 2, 9}) {
            ColumnHouse house = new ColumnHouse();
            Fixture.row(house, 1, 4, 1, 3);
            Fixture.row(house, 2, 5, value);
            Fixture.row(house, 3, 4, 7, 8, 9);
            EDGES.refused(5, "merge " + value + " of d", house, h -> h.merge(1, 2, 3));
            EDGES.refused(5, "merge " + value + " of c", house, h -> h.merge(2, 1, 3));
        }
        merged("1 3", 4, 4, told(1, 3), 5, told());
        merged("1 3", 4, 5, told(), 4, told(1, 3));
    }

    private static void sorted(String want, int changed, int kind, long... told) {
        ColumnHouse house = new ColumnHouse();
        Fixture.row(house, 1, kind, told);
        EDGES.done("sort " + kind, house, changed, h -> h.sort(1));
        EDGES.row("sort " + kind, house, 1, want);
    }

    private static void sortValues() {
        EDGES.due.sentence("sort: of a PLAIN ROW the LESS one first");
        sorted("0 0 1 1", 2, 0, 1, 0, 1, 0);
        sorted("-128 -1 0 127", 3, 1, 127, -128, 0, -1);
        sorted("0 32767 32768 65535", 3, 2, 65535, 0, 32768, 32767);
        sorted("-32768 -1 0 32767", 4, 3, 32767, 0, -32768, -1);
        sorted(LEAST + " -1 0 " + MOST, 4, 4, MOST, 0, LEAST, -1);
        sorted(Long.MIN_VALUE + " -1 0 " + Long.MAX_VALUE, 4, 5, Long.MAX_VALUE, 0, Long.MIN_VALUE, -1);
        // One DOUBLE, but two LONGS.
        sorted((1L << 53) + " " + ((1L << 53) + 1), 2, 5, (1L << 53) + 1, 1L << 53);
        sorted((Long.MAX_VALUE - 1) + " " + Long.MAX_VALUE, 2, 5, Long.MAX_VALUE, Long.MAX_VALUE - 1);
        sorted("-0.125 0.0 0.125", 2, 6, 1, 0, -1);
        sorted("-0.125 0.0 0.125", 2, 7, 1, 0, -1);
        sorted(-0x1p60 + " " + 0x1p60, 2, 6, Long.MAX_VALUE, Long.MIN_VALUE);
        sorted(-0x1p60 + " " + 0x1p60, 2, 7, Long.MAX_VALUE, Long.MIN_VALUE);
    }

    private static void sortedThings(String want, int changed, int kind, int... kindsAndTags) {
        ColumnHouse house = new ColumnHouse();
        Fixture.things(house, 1, kind, Edges.SPARE, kindsAndTags);
        house.lay(Edges.NOTHING, Edges.SPARE);
        EDGES.done("sort " + kind, house, changed, h -> h.sort(1));
        EDGES.row("sort " + kind, house, 1, want);
    }

    private static void sortCards() {
        EDGES.due.sentence("sort: of CARDS, BADGES NOTHING first, then by the TAGS, the less one first");
        sortedThings("- - 12:-5 13:0 14:7", 5, 8, 14, 7, 12, -5, -1, 0, -1, 0, 13, 0);
        sortedThings("- 14:" + LEAST + " 12:-1 13:0 14:" + MOST, 4, 8, 14, MOST, 13, 0, 12, -1, 14, LEAST, -1, 0);
        // By the TAGS, not by the LOADS; NOTHING is not as if its TAG were 0.
        sortedThings("14:5 12:6", 2, 8, 12, 6, 14, 5);
        sortedThings("- 14:-3 14:2", 3, 9, 14, 2, -1, 0, 14, -3);
        sortedThings("- - 14:" + LEAST + " 14:" + MOST, 4, 9, 14, MOST, 14, LEAST, -1, 0, -1, 0);
        sortedThings("- - -", 0, 9, -1, 0, -1, 0, -1, 0);
    }

    private static void sortRows() {
        EDGES.due.sentence("sort: of SHEETS, DECKS NOTHING first, then by how long they are");
        sortedThings("- 4:0 4:1 4:24", 4, 10, 4, 24, 4, 1, -1, 0, 4, 0);
        sortedThings("- - 4:0", 2, 10, 4, 0, -1, 0, -1, 0);
        sortedThings("- 9:0 8:1 9:24", 4, 11, 9, 24, -1, 0, 9, 0, 8, 1);
        sortedThings("9:1 8:1", 0, 11, 9, 1, 8, 1);
    }

    /** Like ones are told apart by which things they are. */
    private static void sortLikeOnesStay() {
        EDGES.due.sentence("sort: like ones stay as they stood");
        sortedThings("14:1 12:1 13:1 12:2 14:2", 3, 8, 14, 1, 12, 2, 12, 1, 13, 1, 14, 2);
        sortedThings("9:0 8:2 9:2 8:2", 4, 11, 8, 2, 9, 2, 8, 2, 9, 0);
        for (int kind : new int[] {8, 9, 10, 11}) {
            int thing = new int[] {13, 14, 4, 8}[kind - 8];
            ColumnHouse house = new ColumnHouse();
            house.make(1, kind, 24);
            house.make(2, kind, 24);
            for (int i = 0; i < 23; i++) {
                house.make(3, thing, 5);
                house.putThing(1, i, 3);
                house.putThing(2, i + 1, 3);
            }
            EDGES.done("sort: the last one is NOTHING", house, 24, h -> h.sort(1));
            EDGES.done("the others only moved on", house, 1, h -> h.alike(1, 2));
        }
    }

    private static void sortCountsChangedPlaces() {
        EDGES.due.sentence("sort: Answers how many places have not what they had (another value; another thing)");
        sorted("1 2 3", 0, 4, 1, 2, 3);
        sorted("2 2 2", 0, 4, 2, 2, 2);
        sorted("1 2 2", 2, 4, 2, 2, 1);
        sorted("1 2 3", 2, 4, 3, 2, 1);
        sorted("1 2 3", 3, 4, 3, 1, 2);
        sorted("0.0 0.0 0.125", 2, 7, 0, 1, 0);
        // Another thing, though with the same TAG.
        sortedThings("12:1 12:2 12:2", 3, 8, 12, 2, 12, 2, 12, 1);
        // The same thing at two places: the middle one has what it had.
        ColumnHouse house = new ColumnHouse();
        house.make(1, 8, 3);
        house.make(2, 12, 5);
        house.putThing(1, 0, 2);
        house.putThing(1, 1, 2);
        EDGES.done("sort the same card twice, and NOTHING", house, 2, h -> h.sort(1));
    }

    private static void sortFromNoPlaceToTheMost() {
        EDGES.due.sentence("sort: rows of no place, of one, and of the most places");
        for (int kind = 0; kind <= 11; kind++) {
            ColumnHouse house = new ColumnHouse();
            house.make(1, kind, 0);
            ColumnEdgesTest.fill(house, 2, kind, 1);
            house.make(3, kind, 24);
            EDGES.done("sort no place", house, 0, h -> h.sort(1));
            EDGES.done("sort one place", house, 0, h -> h.sort(2));
            EDGES.done("sort the most places, all the same", house, 0, h -> h.sort(3));
        }
        for (int kind = 1; kind <= 11; kind++) {
            ColumnHouse house = new ColumnHouse();
            ColumnEdgesTest.fill(house, 1, kind, 24);
            ColumnEdgesTest.backwards(house, 2, 1, 24);
            house.make(3, kind, 24);
            house.gather(1, 2, 3);
            EDGES.done("sort the most places, backwards", house, 24, h -> h.sort(3));
            EDGES.done("in order", house, 1, h -> h.alike(1, 3));
        }
    }

    private static void sortRefused() {
        EDGES.due.sentence("sort: Reasons: 1; 2; 3");
        for (int c : Edges.outside(11)) {
            EDGES.refused(1, "sort " + c, h -> h.sort(c));
        }
        EDGES.refused(2, "sort NOTHING", h -> h.sort(Edges.NOTHING));
        EDGES.refused(3, "sort a card", h -> h.sort(Edges.CARD));
    }

    private static void turned(int n, String want) {
        ColumnHouse house = new ColumnHouse();
        Fixture.row(house, 1, 4, 1, 2, 3, 4, 5);
        EDGES.done("turn by " + n, house, 5, h -> h.turn(1, n));
        EDGES.row("turn by " + n, house, 1, want);
    }

    private static void turnOn() {
        EDGES.due.sentence("turn: The places of the row in column c move on by n (the last ones come first)");
        turned(0, "1 2 3 4 5");
        turned(1, "5 1 2 3 4");
        turned(2, "4 5 1 2 3");
        turned(4, "2 3 4 5 1");
    }

    private static void turnBack() {
        EDGES.due.sentence("turn: n below 0: back");
        turned(-1, "2 3 4 5 1");
        turned(-2, "3 4 5 1 2");
        turned(-4, "5 1 2 3 4");
    }

    private static void turnFarther() {
        EDGES.due.sentence("turn: by as many as there are places, more, and the most");
        turned(5, "1 2 3 4 5");
        turned(6, "5 1 2 3 4");
        turned(10, "1 2 3 4 5");
        turned(-5, "1 2 3 4 5");
        turned(-6, "2 3 4 5 1");
        // 2^31 - 1 is 2 more than a multiple of 5, and -2^31 is 3 less than one.
        turned(MOST, "4 5 1 2 3");
        turned(MOST - 1, "5 1 2 3 4");
        turned(-MOST, "3 4 5 1 2");
        turned(LEAST, "4 5 1 2 3");
        turned(LEAST + 1, "3 4 5 1 2");
    }

    private static void turnFromNoPlaceToTheMost() {
        EDGES.due.sentence("turn: Answers how many places: of no place, of one, and of the most");
        for (int kind = 0; kind <= 11; kind++) {
            for (int n : new int[] {0, 1, 24}) {
                for (int by : new int[] {0, 1, -1, 23, 24, -24, LEAST, MOST}) {
                    ColumnHouse house = new ColumnHouse();
                    ColumnEdgesTest.fill(house, 1, kind, n);
                    turnedAsGathered(house, kind, n, by);
                }
            }
        }
    }

    private static void turnedAsGathered(ColumnHouse house, int kind, int n, int by) {
        house.make(2, kind, n);
        house.make(3, 1, n);
        for (int i = 0; i < n; i++) {
            long from = ((long) i - by) % n;
            Fixture.put(house, 3, i, 1, from < 0 ? from + n : from);
        }
        house.gather(1, 3, 2);
        EDGES.done("turn " + n + " places by " + by, house, n, h -> h.turn(1, by));
        EDGES.done("turned", house, 1, h -> h.alike(1, 2));
    }

    private static void turnRefused() {
        EDGES.due.sentence("turn: Reasons: 1; 2; 3");
        for (int by : new int[] {0, 1, LEAST, MOST}) {
            for (int c : Edges.outside(11)) {
                EDGES.refused(1, "turn " + c, h -> h.turn(c, by));
            }
            EDGES.refused(2, "turn NOTHING", h -> h.turn(Edges.NOTHING, by));
            EDGES.refused(3, "turn a card", h -> h.turn(Edges.CARD, by));
        }
    }
}
