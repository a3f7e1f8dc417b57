/** Sentences of "Terms" about values: how they are TOLD, which sort GOES INTO which, LIKE and LESS. */
public final class ValueEdgesTest {
    private static final Edges EDGES = new Edges();

    private static final long LEAST = Long.MIN_VALUE;
    private static final long MOST = Long.MAX_VALUE;

    /** Halfway between two FLOATS, and 1 to a side: by way of a DOUBLE it would be taken for the half. */
    private static final long HALF = (1L << 60) + (1L << 36);

    public static void main(String[] args) {
        toldByTwoInts();
        toldAsFlag();
        toldAsByte();
        toldAsChar();
        toldAsShort();
        toldAsInt();
        toldAsLong();
        toldAsFloat();
        toldAsDouble();
        nearestFloat();
        nearestDouble();
        nearestInAWiderSort();
        goesIntoOrNot();
        becomesTheNearestNumber();
        likeFlags();
        likeNumbers();
        likeDoubles();
        likeZeros();
        lessByNumbers();
        lessByDoubles();
        lessOfFlags();
        EDGES.due.end();
    }

    private static double read(ColumnHouse house, int c, int i) {
        int kind = house.kind(c);
        return kind <= 5 ? house.number(c, i, kind) : house.point(c, i, kind);
    }

    /** The value is told to put, putBoxed and find alike. */
    private static void told(int sort, int a, int b, long want) {
        ColumnHouse house = new ColumnHouse();
        house.make(0, sort, 3);
        house.put(0, 1, sort, a, b);
        house.putBoxed(0, 2, sort, a, b);
        String name = "sort " + sort + " told by " + a + ", " + b;
        EDGES.due.is("put " + name, house.number(0, 1, sort), want);
        EDGES.due.is("putBoxed " + name, house.number(0, 2, sort), want);
        EDGES.due.is("find " + name, house.find(0, 1, sort, a, b), 1);
    }

    private static void told(int sort, long[] told, long[] want) {
        for (int k = 0; k < told.length; k++) {
            told(sort, (int) (told[k] >> 32), (int) told[k], want[k]);
        }
    }

    private static void toldPoint(int sort, int a, int b, double want) {
        ColumnHouse house = new ColumnHouse();
        house.make(0, sort, 3);
        house.put(0, 1, sort, a, b);
        house.putBoxed(0, 2, sort, a, b);
        String name = "sort " + sort + " told by " + a + ", " + b;
        EDGES.due.point("put " + name, house.point(0, 1, sort), want);
        EDGES.due.point("putBoxed " + name, house.point(0, 2, sort), want);
        EDGES.due.is("find " + name, house.find(0, 1, sort, a, b), 1);
    }

    private static void toldPoint(int sort, long v, double want) {
        toldPoint(sort, (int) (v >> 32), (int) v, want);
    }

    private static void toldByTwoInts() {
        EDGES.due.sentence("v = a times 2^32 and b (b without sign), of 64 bits with sign");
        int least = Integer.MIN_VALUE;
        int most = Integer.MAX_VALUE;
        told(5, 0, 0, 0);
        told(5, 0, 1, 1);
        told(5, 0, most, 2147483647L);
        told(5, 0, least, 2147483648L);
        told(5, 0, -1, 4294967295L);
        told(5, 1, 0, 4294967296L);
        told(5, 1, -1, 8589934591L);
        told(5, -1, -1, -1);
        told(5, -1, least, -2147483648L);
        told(5, -1, most, -2147483649L);
        told(5, -1, 0, -4294967296L);
        told(5, most, -1, MOST);
        told(5, least, 0, LEAST);
        told(5, least, -1, LEAST + 4294967295L);
        toldPoint(7, 0, -1, 536870911.875);
        toldPoint(7, -1, 0, -536870912.0);
        toldPoint(6, 0, -256, 536870880.0);
        toldPoint(6, 0, least, 268435456.0);
    }

    private static void toldAsFlag() {
        EDGES.due.sentence("FLAG (0 or 1); FLAG: the lowest bit of v");
        told(0, new long[] {0, 1, 2, 3, -1, -2, 1L << 32, (1L << 32) + 1, MOST, LEAST}, new long[] {0, 1, 0, 1, 1, 0, 0, 1, 1, 0});
    }

    private static void toldAsByte() {
        EDGES.due.sentence("BYTE (-128 .. 127); its lowest 8 bits");
        told(1, new long[] {127, 128, -128, -129, 255, 256, -255, -256, 1L << 32, MOST, LEAST},
                new long[] {127, -128, -128, 127, -1, 0, 1, 0, 0, -1, 0});
    }

    private static void toldAsChar() {
        EDGES.due.sentence("CHAR (0 .. 65535); its lowest 16 bits");
        told(2, new long[] {0, -1, 32767, 32768, 65535, 65536, 65537, -65535, -65536, 1L << 32, MOST, LEAST},
                new long[] {0, 65535, 32767, 32768, 65535, 0, 1, 1, 0, 0, 65535, 0});
    }

    private static void toldAsShort() {
        EDGES.due.sentence("SHORT (-32768 .. 32767); its lowest 16 bits");
        told(3, new long[] {32767, 32768, -32768, -32769, 65535, 65536, -65535, 1L << 32, MOST, LEAST},
                new long[] {32767, -32768, -32768, 32767, -1, 0, 1, 0, -1, 0});
    }

    private static void toldAsInt() {
        EDGES.due.sentence("INT (32 bits with sign); its lowest 32 bits");
        long most = Integer.MAX_VALUE;
        long least = Integer.MIN_VALUE;
        told(4, new long[] {most, most + 1, least, least - 1, (1L << 32) - 1, 1L << 32, (1L << 32) + 1, MOST, LEAST},
                new long[] {most, least, least, most, -1, 0, 1, -1, 0});
    }

    private static void toldAsLong() {
        EDGES.due.sentence("LONG (64 bits with sign); LONG: v");
        long[] all = {0, 1, -1, MOST, MOST - 1, LEAST, LEAST + 1, 1L << 32, (1L << 53) + 1};
        told(5, all, all);
    }

    private static void toldAsFloat() {
        EDGES.due.sentence("FLOAT: the FLOAT nearest to v, then divided by 8");
        toldPoint(6, 0, 0.0);
        toldPoint(6, 1, 0.125);
        toldPoint(6, -1, -0.125);
        toldPoint(6, 8, 1.0);
        toldPoint(6, (1L << 24) - 1, 2097151.875);
        toldPoint(6, MOST, 0x1p60);
        toldPoint(6, LEAST, -0x1p60);
        toldPoint(6, LEAST + (1L << 39), -0x1p60 + 0x1p36);
        // In one step: by way of a DOUBLE all four would be as near to two FLOATS.
        toldPoint(6, HALF + 1, 0x1p57 + 0x1p34);
        toldPoint(6, HALF - 1, 0x1p57);
        toldPoint(6, -HALF - 1, -0x1p57 - 0x1p34);
        toldPoint(6, -HALF + 1, -0x1p57);
    }

    private static void toldAsDouble() {
        EDGES.due.sentence("DOUBLE: likewise by DOUBLES");
        toldPoint(7, 0, 0.0);
        toldPoint(7, 1, 0.125);
        toldPoint(7, -1, -0.125);
        toldPoint(7, (1L << 24) + 1, 2097152.125);
        toldPoint(7, (1L << 53) - 1, 0x1p50 - 0.125);
        toldPoint(7, 1L << 53, 0x1p50);
        toldPoint(7, MOST, 0x1p60);
        toldPoint(7, MOST - 1023, 0x1p60 - 128);
        toldPoint(7, LEAST, -0x1p60);
        toldPoint(7, LEAST + 1024, -0x1p60 + 128);
    }

    private static void nearestFloat() {
        EDGES.due.sentence("Nearest: of two as near the one whose last bit is 0 (FLOATS)");
        toldPoint(6, (1L << 24) + 1, 0x1p21);
        toldPoint(6, (1L << 24) + 2, 0x1p21 + 0.25);
        toldPoint(6, (1L << 24) + 3, 0x1p21 + 0.5);
        toldPoint(6, -(1L << 24) - 1, -0x1p21);
        toldPoint(6, -(1L << 24) - 3, -0x1p21 - 0.5);
        toldPoint(6, (1L << 25) + 1, 0x1p22);
        toldPoint(6, (1L << 25) + 2, 0x1p22);
        toldPoint(6, (1L << 25) + 3, 0x1p22 + 0.5);
        toldPoint(6, (1L << 25) - 1, 0x1p22);
        toldPoint(6, HALF, 0x1p57);
        toldPoint(6, (1L << 60) + 3 * (1L << 36), 0x1p57 + 0x1p35);
    }

    private static void nearestDouble() {
        EDGES.due.sentence("Nearest: of two as near the one whose last bit is 0 (DOUBLES)");
        toldPoint(7, (1L << 53) + 1, 0x1p50);
        toldPoint(7, (1L << 53) + 2, 0x1p50 + 0.25);
        toldPoint(7, (1L << 53) + 3, 0x1p50 + 0.5);
        toldPoint(7, -(1L << 53) - 1, -0x1p50);
        toldPoint(7, -(1L << 53) - 3, -0x1p50 - 0.5);
        toldPoint(7, (1L << 54) + 1, 0x1p51);
        toldPoint(7, (1L << 54) + 2, 0x1p51);
        toldPoint(7, (1L << 54) + 3, 0x1p51 + 0.5);
        toldPoint(7, MOST - 511, 0x1p60);
        toldPoint(7, MOST - 512, 0x1p60 - 128);
    }

    private static void widened(int sort, long v, int kind, double want) {
        ColumnHouse house = new ColumnHouse();
        Fixture.row(house, 0, sort, v);
        house.make(1, kind, 1);
        house.make(2, 1, 1);
        String name = v + " of sort " + sort + " into " + kind;
        Fixture.put(house, 1, 0, sort, v);
        EDGES.due.point("put " + name, read(house, 1, 0), want);
        house.make(1, kind, 1);
        house.putBoxed(1, 0, sort, (int) (v >> 32), (int) v);
        EDGES.due.point("putBoxed " + name, read(house, 1, 0), want);
        EDGES.due.point("read " + name, kind <= 5 ? house.number(0, 0, kind) : house.point(0, 0, kind), want);
        house.make(1, kind, 1);
        house.copy(0, 1);
        EDGES.due.point("copy " + name, read(house, 1, 0), want);
        house.make(1, kind, 1);
        house.gather(0, 2, 1);
        EDGES.due.point("gather " + name, read(house, 1, 0), want);
        house.make(1, kind, 1);
        house.scatter(0, 2, 1);
        EDGES.due.point("scatter " + name, read(house, 1, 0), want);
        house.make(1, kind, 1);
        house.make(3, sort, 0);
        house.merge(3, 0, 1);
        EDGES.due.point("merge " + name, read(house, 1, 0), want);
    }

    private static void nearestInAWiderSort() {
        EDGES.due.sentence("Nearest, in a wider sort: of two as near the one whose last bit is 0");
        widened(4, (1L << 24) + 1, 6, 0x1p24);
        widened(4, (1L << 24) + 3, 6, 0x1p24 + 4);
        widened(4, -(1L << 24) - 1, 6, -0x1p24);
        widened(5, HALF, 6, 0x1p60);
        widened(5, HALF + 1, 6, 0x1p60 + 0x1p37);
        widened(5, HALF - 1, 6, 0x1p60);
        widened(5, (1L << 53) + 1, 7, 0x1p53);
        widened(5, (1L << 53) + 3, 7, 0x1p53 + 4);
        widened(5, -(1L << 53) - 1, 7, -0x1p53);
    }

    private static void goesIntoOrNot() {
        EDGES.due.sentence("A sort GOES INTO itself; BYTE into SHORT, INT, LONG, FLOAT, DOUBLE; .. nothing else");
        for (int sort = 0; sort <= 7; sort++) {
            for (int kind = 0; kind <= 7; kind++) {
                goesInto(sort, kind);
            }
        }
    }

    private static void goesInto(int sort, int kind) {
        boolean goes = Edges.goes(sort, kind);
        ColumnHouse house = new ColumnHouse();
        Fixture.row(house, 1, sort, 8);
        house.make(2, kind, 1);
        house.make(3, 1, 1);
        house.make(4, sort, 0);
        String name = " of sort " + sort + " into " + kind;
        answered("put" + name, house, house.put(2, 0, sort, 0, 8), goes);
        answered("putBoxed" + name, house, house.putBoxed(2, 0, sort, 0, 8), goes);
        answered("copy" + name, house, house.copy(1, 2), goes);
        answered("gather" + name, house, house.gather(1, 3, 2), goes);
        answered("scatter" + name, house, house.scatter(1, 3, 2), goes);
        answered("merge" + name, house, house.merge(1, 4, 2), goes);
        if (kind <= 5) {
            house.number(1, 0, kind);
        } else {
            house.point(1, 0, kind);
        }
        EDGES.due.is("why of reading" + name, house.why(), goes ? 0 : 5);
    }

    private static void answered(String name, ColumnHouse house, int answer, boolean goes) {
        EDGES.due.is(name, answer, goes ? 1 : 0);
        EDGES.due.is(name + ": why", house.why(), goes ? 0 : 5);
    }

    private static void becomesTheNearestNumber() {
        EDGES.due.sentence("A value that goes into a sort becomes the number of that sort that is nearest to it");
        long[] least = {0, -128, 0, -32768, Integer.MIN_VALUE, LEAST};
        long[] most = {1, 127, 65535, 32767, Integer.MAX_VALUE, MOST};
        for (int sort = 1; sort <= 5; sort++) {
            for (int kind = 1; kind <= 7; kind++) {
                if (Edges.goes(sort, kind)) {
                    widened(sort, least[sort], kind, kind == 6 ? (float) least[sort] : (double) least[sort]);
                    widened(sort, most[sort], kind, kind == 6 ? (float) most[sort] : (double) most[sort]);
                }
            }
        }
        widened(4, Integer.MAX_VALUE, 6, 0x1p31);
        widened(4, Integer.MAX_VALUE, 7, 2147483647.0);
        widened(5, MOST, 6, 0x1p63);
        widened(5, MOST, 7, 0x1p63);
        widened(6, 1, 7, 0.125);
        widened(6, (1L << 24) + 1, 7, 0x1p21);
    }

    /** Asked of find and, in both orders, of alike. */
    private static void like(int sort, long v, int another, long w, boolean want) {
        ColumnHouse house = new ColumnHouse();
        Fixture.row(house, 0, sort, v);
        Fixture.row(house, 1, another, w);
        String name = v + " of sort " + sort + " and " + w + " of sort " + another;
        EDGES.done("find " + name, house, want ? 0 : -1, h -> Fixture.find(h, 0, 0, another, w));
        EDGES.done("find the other way " + name, house, want ? 0 : -1, h -> Fixture.find(h, 1, 0, sort, v));
        EDGES.done("alike " + name, house, want ? 1 : 0, h -> h.alike(0, 1));
        EDGES.done("alike the other way " + name, house, want ? 1 : 0, h -> h.alike(1, 0));
    }

    private static void likeFlags() {
        EDGES.due.sentence("LIKE, if both are FLAGS with the same number; or if neither is a FLAG");
        like(0, 0, 0, 0, true);
        like(0, 1, 0, 1, true);
        like(0, 0, 0, 1, false);
        for (int sort = 1; sort <= 7; sort++) {
            like(0, 0, sort, 0, false);
            like(0, 1, sort, sort <= 5 ? 1 : 8, false);
        }
    }

    private static void likeNumbers() {
        EDGES.due.sentence("LIKE: both are of sorts 1 to 5 and have the same number");
        for (int sort = 1; sort <= 5; sort++) {
            for (int another = 1; another <= 5; another++) {
                like(sort, 127, another, 127, true);
                like(sort, 127, another, 126, false);
                // All 16 bits are the same, the numbers are not where one of the two is a CHAR.
                like(sort, -1, another, -1, (sort == 2) == (another == 2));
            }
        }
        like(5, (1L << 53) + 1, 5, 1L << 53, false);
        like(5, MOST, 5, MOST - 1, false);
        like(4, 0, 5, 1L << 32, false);
        like(4, -1, 5, (1L << 32) - 1, false);
        like(3, -32768, 2, 32768, false);
    }

    private static void likeDoubles() {
        EDGES.due.sentence("LIKE: one is a FLOAT or DOUBLE and the DOUBLES that they become are like numbers");
        for (int sort = 1; sort <= 7; sort++) {
            for (int point = 6; point <= 7; point++) {
                like(sort, sort <= 5 ? 3 : 24, point, 24, true);
                like(sort, sort <= 5 ? 3 : 24, point, 25, false);
            }
        }
        like(5, (1L << 53) + 1, 7, 1L << 56, true);
        like(5, (1L << 53) + 1, 6, 1L << 56, true);
        like(5, (1L << 53) - 1, 7, 1L << 56, false);
        like(5, MOST, 7, 1L << 62, false);
        // As FLOATS they would be like, as DOUBLES they are not.
        like(4, (1L << 24) + 1, 6, 1L << 27, false);
        like(7, (1L << 24) + 1, 6, 1L << 24, false);
        like(5, HALF, 6, HALF, false);
    }

    /** No value that can be told is -0, and no call makes one: of 0 and -0 only 0 can be asked. */
    private static void likeZeros() {
        EDGES.due.sentence("LIKE: 0 and -0 are");
        for (int sort = 1; sort <= 7; sort++) {
            for (int another = 1; another <= 7; another++) {
                like(sort, 0, another, 0, true);
            }
        }
    }

    /** Of c and d, that of d comes first if it is LESS. */
    private static void less(int left, long v, int right, long w, boolean want) {
        ColumnHouse house = new ColumnHouse();
        Fixture.row(house, 0, left, v);
        Fixture.row(house, 1, right, w);
        int into = 0;
        while (!Edges.goes(left, into) || !Edges.goes(right, into)) {
            into++;
        }
        house.make(2, into, 2);
        String name = w + " of sort " + right + " LESS than " + v + " of sort " + left;
        EDGES.done("merge: " + name, house, 2, h -> h.merge(0, 1, 2));
        EDGES.due.is("first: " + name, read(house, 2, 0) == widest(house, want ? 1 : 0, into) ? 1 : 0, 1);
        EDGES.due.is("last: " + name, read(house, 2, 1) == widest(house, want ? 0 : 1, into) ? 1 : 0, 1);
        if (left == right) {
            Fixture.row(house, 3, left, v, w);
            EDGES.done("sort: " + name, house, want ? 2 : 0, h -> h.sort(3));
        }
    }

    private static double widest(ColumnHouse house, int c, int kind) {
        return kind <= 5 ? house.number(c, 0, kind) : house.point(c, 0, kind);
    }

    private static void lessByNumbers() {
        EDGES.due.sentence("One is LESS likewise: by their numbers");
        long[] least = {0, -128, 0, -32768, Integer.MIN_VALUE, LEAST};
        long[] most = {1, 127, 65535, 32767, Integer.MAX_VALUE, MOST};
        for (int sort = 1; sort <= 5; sort++) {
            less(sort, most[sort], sort, least[sort], true);
            less(sort, least[sort], sort, most[sort], false);
            less(sort, most[sort], sort, most[sort] - 1, true);
            less(sort, most[sort] - 1, sort, most[sort], false);
            less(sort, least[sort] + 1, sort, least[sort], true);
        }
        less(2, 65535, 3, -1, true);
        less(3, -1, 2, 65535, false);
        less(1, 0, 2, 65535, false);
        ColumnHouse house = new ColumnHouse();
        Fixture.row(house, 0, 5, (1L << 53) + 1, MOST);
        Fixture.row(house, 1, 5, 1L << 53, MOST - 1);
        house.make(2, 5, 4);
        EDGES.done("merge LONGS that are one DOUBLE", house, 4, h -> h.merge(0, 1, 2));
        EDGES.row("LONGS", house, 2, (1L << 53) + " " + ((1L << 53) + 1) + " " + (MOST - 1) + " " + MOST);
    }

    private static void lessByDoubles() {
        EDGES.due.sentence("One is LESS likewise: by the DOUBLES that they become");
        for (int sort = 1; sort <= 7; sort++) {
            for (int point = 6; point <= 7; point++) {
                long three = sort <= 5 ? 3 : 24;
                less(sort, three, point, 23, true);
                less(sort, three, point, 25, false);
                less(point, 25, sort, three, true);
                less(point, 23, sort, three, false);
            }
        }
        // Between an INT and the FLOAT that is nearest to it: the INT doesn't become that FLOAT.
        less(7, (1L << 27) + 4, 4, (1L << 24) + 1, false);
        less(4, (1L << 24) + 1, 7, (1L << 27) + 4, true);
        less(7, (1L << 27) + 28, 4, (1L << 24) + 3, true);
        less(4, (1L << 24) + 3, 7, (1L << 27) + 28, false);
        less(7, 1, 7, 0, true);
        less(7, 0, 7, -1, true);
        // Like ones as DOUBLES: that of c comes first, whatever the next places have.
        ColumnHouse house = new ColumnHouse();
        Fixture.row(house, 0, 7, 1L << 56, 8);
        Fixture.row(house, 1, 5, (1L << 53) + 1, 0);
        house.make(2, 7, 4);
        EDGES.done("merge a LONG that becomes the same DOUBLE", house, 4, h -> h.merge(0, 1, 2));
        EDGES.row("DOUBLES", house, 2, 0x1p53 + " 1.0 " + 0x1p53 + " 0.0");
        Fixture.row(house, 3, 6, 1L << 27);
        Fixture.row(house, 4, 4, (1L << 24) + 1);
        house.make(5, 7, 2);
        EDGES.done("merge an INT that is no FLOAT", house, 2, h -> h.merge(4, 3, 5));
        EDGES.row("DOUBLES", house, 5, 0x1p24 + " " + (0x1p24 + 1));
    }

    private static void lessOfFlags() {
        EDGES.due.sentence("of FLAGS 0 is less than 1");
        less(0, 1, 0, 0, true);
        less(0, 0, 0, 1, false);
        ColumnHouse house = new ColumnHouse();
        Fixture.row(house, 0, 0, 1, 0, 1, 0, 0);
        EDGES.done("sort FLAGS", house, 4, h -> h.sort(0));
        EDGES.row("FLAGS", house, 0, "0 0 0 1 1");
    }
}
