/** Promises 21 to 24, sentence by sentence: the questions about whole columns. */
public final class QuestionEdgesTest {
    private static final Edges EDGES = new Edges();

    private static final int LEAST = Integer.MIN_VALUE;
    private static final int MOST = Integer.MAX_VALUE;

    public static void main(String[] args) {
        sumOfNumbers();
        sumThatWraps();
        sumNoRow();
        sumOfAnotherKind();
        totalOfDoubles();
        totalOneAfterTheOther();
        totalFromZeroOn();
        totalNoRow();
        totalOfNoPlainRowOrFlags();
        findTheFirst();
        findFromPlace();
        findFromBelow();
        findNone();
        findNoSort();
        findNoRow();
        findInNoPlainRow();
        alikeOtherLengths();
        alikeValues();
        alikeThings();
        alikeNoRows();
        questionsChangeNothing();
        EDGES.due.end();
    }

    private static void sum(long want, int kind, long... told) {
        ColumnHouse house = new ColumnHouse();
        Fixture.row(house, 1, kind, told);
        house.kind(-1);
        EDGES.due.is("sum of " + kind, house.sum(1), want);
        EDGES.due.is("its why", house.why(), 0);
    }

    private static long[] most(long value) {
        long[] told = new long[24];
        java.util.Arrays.fill(told, value);
        return told;
    }

    private static void sumOfNumbers() {
        EDGES.due.sentence("sum: The sum of the numbers of the row in column c, which is of sorts 1 to 5");
        long[] least = {0, -128, 0, -32768, LEAST};
        long[] greatest = {0, 127, 65535, 32767, MOST};
        for (int kind = 1; kind <= 4; kind++) {
            sum(0, kind);
            sum(greatest[kind], kind, greatest[kind]);
            sum(24 * greatest[kind], kind, most(greatest[kind]));
            sum(24 * least[kind], kind, most(least[kind]));
            sum(greatest[kind] + least[kind], kind, greatest[kind], least[kind]);
        }
        sum(0, 5);
        sum(Long.MAX_VALUE, 5, Long.MAX_VALUE);
        sum(Long.MIN_VALUE, 5, Long.MIN_VALUE);
        sum(-1, 5, Long.MAX_VALUE, Long.MIN_VALUE);
        // No DOUBLE has this many digits.
        sum((1L << 53) + 3, 5, (1L << 53) + 1, 2);
    }

    private static void sumThatWraps() {
        EDGES.due.sentence("sum: (64 bits that wrap)");
        sum(Long.MIN_VALUE, 5, Long.MAX_VALUE, 1);
        sum(Long.MAX_VALUE, 5, Long.MIN_VALUE, -1);
        sum(-2, 5, Long.MAX_VALUE, Long.MAX_VALUE);
        sum(0, 5, Long.MIN_VALUE, Long.MIN_VALUE);
        sum(-24, 5, most(Long.MAX_VALUE));
        sum(0, 5, most(Long.MIN_VALUE));
        sum(Long.MAX_VALUE, 5, Long.MAX_VALUE, 1, -1);
    }

    private static void sumNoRow() {
        EDGES.due.sentence("sum: Reasons: 1; 2; 3");
        for (int c : Edges.outside(11)) {
            EDGES.refused(1, "sum of " + c, h -> h.sum(c));
        }
        EDGES.refused(2, "sum of NOTHING", h -> h.sum(Edges.NOTHING));
        EDGES.refused(3, "sum of a card", h -> h.sum(Edges.CARD));
    }

    private static void sumOfAnotherKind() {
        EDGES.due.sentence("sum: 6: it is of another kind");
        for (int kind : new int[] {0, 6, 7, 8, 9, 10, 11}) {
            for (int n : new int[] {0, 1, 3}) {
                ColumnHouse house = new ColumnHouse();
                ColumnEdgesTest.fill(house, 1, kind, n);
                EDGES.refused(6, "sum of " + n + " of " + kind, house, h -> h.sum(1));
            }
        }
    }

    private static void total(double want, int kind, long... told) {
        ColumnHouse house = new ColumnHouse();
        Fixture.row(house, 1, kind, told);
        EDGES.done("total of " + kind, house, want, h -> h.total(1));
    }

    private static void totalOfDoubles() {
        EDGES.due.sentence("total: The sum of the DOUBLES that the values of the row in column c become");
        total(24 * 127, 1, most(127));
        total(24 * -128, 1, most(-128));
        total(24 * 65535, 2, most(65535));
        total(24 * -32768, 3, most(-32768));
        total(24.0 * MOST, 4, most(MOST));
        total(24.0 * LEAST, 4, most(LEAST));
        total(0x1p63, 5, Long.MAX_VALUE);
        total(-0x1p63, 5, Long.MIN_VALUE);
        // It doesn't wrap as sum() does.
        total(0x1p64, 5, Long.MAX_VALUE, Long.MAX_VALUE);
        total(0x1p53, 5, (1L << 53) + 1);
        // Each is a FLOAT, the sum is none.
        total(0x1p24 + 1, 6, 1L << 27, 8);
        total(-0.5, 7, 1, 2, -7);
    }

    private static void totalOneAfterTheOther() {
        EDGES.due.sentence("total: one added to those before it");
        total(0x1p53, 5, 1L << 53, 1, 1);
        total(0x1p53 + 2, 5, 1, 1, 1L << 53);
        total(0x1p50 + 0.25, 7, 1, 1, 1L << 53);
        total(0x1p50, 7, 1L << 53, 1, 1);
        total(0, 5, 1, 1L << 53, -(1L << 53));
        total(1, 5, 1L << 53, -(1L << 53), 1);
    }

    private static void totalFromZeroOn() {
        EDGES.due.sentence("total: from 0 on");
        for (int kind = 1; kind <= 7; kind++) {
            total(0.0, kind);
            total(0.0, kind, 0);
            total(0.0, kind, most(0));
        }
        total(0.0, 7, 1, -1);
        total(0.0, 4, -1, 1);
    }

    private static void totalNoRow() {
        EDGES.due.sentence("total: Reasons: 1; 2; 3");
        for (int c : Edges.outside(11)) {
            EDGES.refused(1, "total of " + c, h -> h.total(c));
        }
        EDGES.refused(2, "total of NOTHING", h -> h.total(Edges.NOTHING));
        EDGES.refused(3, "total of a card", h -> h.total(Edges.CARD));
    }

    private static void totalOfNoPlainRowOrFlags() {
        EDGES.due.sentence("total: 6: it is no PLAIN ROW, or FLAGS");
        for (int kind : new int[] {0, 8, 9, 10, 11}) {
            for (int n : new int[] {0, 1, 3}) {
                ColumnHouse house = new ColumnHouse();
                ColumnEdgesTest.fill(house, 1, kind, n);
                EDGES.refused(6, "total of " + n + " of " + kind, house, h -> h.total(1));
            }
        }
    }

    private static ColumnHouse sevens(int kind) {
        ColumnHouse house = new ColumnHouse();
        house.make(1, kind, 24);
        for (int i : new int[] {0, 5, 23}) {
            Fixture.put(house, 1, i, kind, 7);
        }
        return house;
    }

    private static void findTheFirst() {
        EDGES.due.sentence("find: The first place of the PLAIN ROW in column c whose value is LIKE the one that is TOLD");
        for (int kind = 0; kind <= 7; kind++) {
            int sort = kind;
            EDGES.done("the first", sevens(kind), 0, h -> Fixture.find(h, 1, 0, sort, 7));
            EDGES.done("the first that is 0", sevens(kind), 1, h -> Fixture.find(h, 1, 0, sort, 0));
        }
    }

    private static void findFromPlace() {
        EDGES.due.sentence("find: from place i on");
        int[] from = {0, 1, 5, 6, 22, 23};
        int[] want = {0, 5, 5, 23, 23, 23};
        for (int kind = 0; kind <= 7; kind++) {
            int sort = kind;
            for (int k = 0; k < from.length; k++) {
                int i = from[k];
                EDGES.done("from " + i, sevens(kind), want[k], h -> Fixture.find(h, 1, i, sort, 7));
            }
        }
    }

    private static void findFromBelow() {
        EDGES.due.sentence("find: (from 0 if i is below that)");
        for (int i : new int[] {-1, -2, -24, LEAST, LEAST + 1}) {
            EDGES.done("from " + i, sevens(4), 0, h -> Fixture.find(h, 1, i, 4, 7));
            EDGES.done("from " + i, sevens(4), 1, h -> Fixture.find(h, 1, i, 4, 0));
        }
    }

    private static void findNone() {
        EDGES.due.sentence("find: -1 if none is");
        for (int i : new int[] {0, -1, 23, 24, 25, LEAST, MOST}) {
            EDGES.done("an 8 from " + i, sevens(4), -1, h -> Fixture.find(h, 1, i, 4, 8));
        }
        // A place that the row has not is no reason: there just is none from there on.
        for (int i : new int[] {24, 25, MOST - 1, MOST}) {
            EDGES.done("a 7 from " + i, sevens(4), -1, h -> Fixture.find(h, 1, i, 4, 7));
        }
        for (int kind = 0; kind <= 7; kind++) {
            for (int i : new int[] {0, -1, 1, LEAST, MOST}) {
                ColumnHouse house = new ColumnHouse();
                int sort = kind;
                house.make(1, kind, 0);
                EDGES.done("in no place", house, -1, h -> Fixture.find(h, 1, i, sort, 0));
            }
        }
    }

    private static void findNoSort() {
        EDGES.due.sentence("find: 1 (c; sort not 0 .. 7), told before 2, 3 and 6");
        for (int c : Edges.outside(11)) {
            EDGES.refused(1, "find in " + c, h -> h.find(c, 0, 4, 0, 5));
        }
        for (int sort : Edges.outside(7)) {
            EDGES.refused(1, "find of sort " + sort, h -> h.find(Edges.INTS, 0, sort, 0, 5));
            EDGES.refused(1, "find: before NOTHING", h -> h.find(Edges.NOTHING, 0, sort, 0, 5));
            EDGES.refused(1, "find: before no row", h -> h.find(Edges.CARD, 0, sort, 0, 5));
            EDGES.refused(1, "find: before no PLAIN ROW", h -> h.find(Edges.CARDS, 0, sort, 0, 5));
        }
        EDGES.done("sort 0", Edges.house(), 1, h -> h.find(Edges.FLAGS, 0, 0, 0, 0));
        EDGES.done("sort 7", Edges.house(), 0, h -> h.find(Edges.INTS, 0, 7, 0, 40));
    }

    private static void findNoRow() {
        EDGES.due.sentence("find: 2; 3");
        for (int sort = 0; sort <= 7; sort++) {
            int told = sort;
            for (int i : new int[] {0, LEAST, MOST}) {
                EDGES.refused(2, "find in NOTHING", h -> h.find(Edges.NOTHING, i, told, 0, 0));
                EDGES.refused(3, "find in a card", h -> h.find(Edges.CARD, i, told, 0, 0));
            }
        }
    }

    private static void findInNoPlainRow() {
        EDGES.due.sentence("find: 6: it is no PLAIN ROW");
        for (int kind = 8; kind <= 11; kind++) {
            for (int n : new int[] {0, 1, 3}) {
                for (int i : new int[] {0, LEAST, MOST}) {
                    ColumnHouse house = new ColumnHouse();
                    ColumnEdgesTest.fill(house, 1, kind, n);
                    EDGES.refused(6, "find in " + n + " of " + kind, house, h -> h.find(1, i, 4, 0, 0));
                }
            }
        }
    }

    private static void alikeOtherLengths() {
        EDGES.due.sentence("alike: 1 if the rows in columns c and d are as long as each other; else 0");
        for (int left = 0; left <= 11; left++) {
            for (int right = 0; right <= 11; right++) {
                ColumnHouse house = new ColumnHouse();
                house.make(1, left, 0);
                house.make(2, right, 0);
                house.make(3, right, 1);
                house.make(4, left, 24);
                house.make(5, right, 23);
                EDGES.done("no place of both", house, 1, h -> h.alike(1, 2));
                EDGES.done("none and one", house, 0, h -> h.alike(1, 3));
                EDGES.done("one and none", house, 0, h -> h.alike(3, 1));
                EDGES.done("the most and one less", house, 0, h -> h.alike(4, 5));
                EDGES.done("one less and the most", house, 0, h -> h.alike(5, 4));
            }
        }
    }

    private static void alikeValues() {
        EDGES.due.sentence("alike: have LIKE values at the same places");
        for (int kind = 0; kind <= 7; kind++) {
            for (int i : new int[] {0, 12, 23}) {
                ColumnHouse house = sevens(kind);
                house.make(2, kind, 24);
                house.copy(1, 2);
                int sort = kind;
                EDGES.done("the most places", house, 1, h -> h.alike(1, 2));
                long had = kind <= 5 ? house.number(2, i, kind) : (long) (8 * house.point(2, i, kind));
                Fixture.put(house, 2, i, sort, had + 1);
                EDGES.done("but for place " + i, house, 0, h -> h.alike(1, 2));
                EDGES.done("but for place " + i, house, 0, h -> h.alike(2, 1));
            }
        }
        ColumnHouse house = new ColumnHouse();
        Fixture.row(house, 1, 4, 1, 2);
        Fixture.row(house, 2, 4, 2, 1);
        EDGES.done("the same values at other places", house, 0, h -> h.alike(1, 2));
    }

    private static void alikeThings() {
        EDGES.due.sentence("alike: the same things, or NOTHING at the same places");
        for (int kind = 8; kind <= 11; kind++) {
            ColumnHouse house = new ColumnHouse();
            ColumnEdgesTest.fill(house, 1, kind, 24);
            house.make(2, kind, 24);
            EDGES.done("things and NOTHING", house, 0, h -> h.alike(1, 2));
            house.copy(1, 2);
            EDGES.done("the same things", house, 1, h -> h.alike(1, 2));
            house.putThing(2, 23, 0);
            EDGES.done("but for the last place", house, 0, h -> h.alike(1, 2));
            house.putThing(1, 23, 0);
            EDGES.done("the same things, and NOTHING", house, 1, h -> h.alike(1, 2));
            // Made alike, with the same lengths and tags, but other things.
            ColumnEdgesTest.fill(house, 2, kind, 24);
            house.putThing(2, 23, 0);
            EDGES.done("other things of the same making", house, 0, h -> h.alike(1, 2));
        }
        alikeOfOtherKinds();
    }

    private static void alikeOfOtherKinds() {
        for (int left = 0; left <= 11; left++) {
            for (int right = 0; right <= 11; right++) {
                if (left >= 8 || right >= 8) {
                    ColumnHouse house = new ColumnHouse();
                    house.make(1, left, 2);
                    house.make(2, right, 2);
                    EDGES.done("NOTHING, or values that are 0", house, left >= 8 && right >= 8 ? 1 : 0, h -> h.alike(1, 2));
                }
            }
        }
        ColumnHouse house = new ColumnHouse();
        ColumnEdgesTest.fill(house, 1, 9, 3);
        house.make(2, 8, 3);
        house.copy(1, 2);
        EDGES.done("the same BADGES among CARDS", house, 1, h -> h.alike(1, 2));
    }

    private static void alikeNoRows() {
        EDGES.due.sentence("alike: 1; 2 (of one of them); 3 (of one of them)");
        for (int c : Edges.outside(11)) {
            EDGES.refused(1, "alike " + c, h -> h.alike(c, Edges.INTS));
            EDGES.refused(1, "alike with " + c, h -> h.alike(Edges.INTS, c));
            EDGES.refused(1, "alike both " + c, h -> h.alike(c, c));
        }
        EDGES.refused(2, "alike NOTHING", h -> h.alike(Edges.NOTHING, Edges.INTS));
        EDGES.refused(2, "alike with NOTHING", h -> h.alike(Edges.INTS, Edges.NOTHING));
        EDGES.refused(2, "alike both NOTHING", h -> h.alike(Edges.NOTHING, Edges.NOTHING));
        EDGES.refused(2, "alike NOTHING and a card", h -> h.alike(Edges.NOTHING, Edges.CARD));
        EDGES.refused(2, "alike a card and NOTHING", h -> h.alike(Edges.CARD, Edges.NOTHING));
        EDGES.refused(3, "alike a card", h -> h.alike(Edges.CARD, Edges.INTS));
        EDGES.refused(3, "alike with a card", h -> h.alike(Edges.INTS, Edges.CARD));
        EDGES.refused(3, "alike a card with itself", h -> h.alike(Edges.CARD, Edges.CARD));
    }

    private static void questionsChangeNothing() {
        EDGES.due.sentence("questions about whole columns");
        ColumnHouse house = Edges.house();
        String before = Edges.seen(house);
        house.sum(Edges.LONGS);
        house.total(Edges.DOUBLES);
        house.find(Edges.DOUBLES, 0, 7, 0, 8);
        house.alike(Edges.CARDS, Edges.BADGES);
        house.why();
        EDGES.due.text("all of it", Edges.seen(house), before);
    }
}
