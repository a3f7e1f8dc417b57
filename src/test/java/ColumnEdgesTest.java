/** Promises 15 to 20, sentence by sentence: the calls of whole columns. */
public final class ColumnEdgesTest {
    private static final Edges EDGES = new Edges();

    private static final int LEAST = Integer.MIN_VALUE;
    private static final int MOST = Integer.MAX_VALUE;

    public static void main(String[] args) {
        copyEachPlace();
        copyNoRows();
        copyOtherLengths();
        copyWhatDoesNotGo();
        copyBetweenValuesAndThings();
        copyTheFirstPlaceAmiss();
        gatherEachPlace();
        gatherNoRows();
        gatherByNoInts();
        gatherOtherLengths();
        gatherNoSuchPlace();
        gatherWhatDoesNotGo();
        gatherTheFirstPlaceAmiss();
        scatterEachPlace();
        scatterALaterOverAnEarlier();
        scatterNoRows();
        scatterByNoInts();
        scatterOtherLengths();
        scatterNoSuchPlace();
        scatterWhatDoesNotGo();
        scatterTheFirstPlaceAmiss();
        EDGES.due.end();
    }

    /** Column c: a row of this kind whose values or things differ from place to place; passes through SPARE. */
    static void fill(ColumnHouse house, int c, int kind, int n) {
        int[] thing = {12, 14, 4, 9};
        house.make(c, kind, n);
        for (int i = 0; i < n; i++) {
            if (kind <= 7) {
                Fixture.put(house, c, i, kind, i + 1);
            } else {
                house.make(Edges.SPARE, thing[kind - 8], i + 1);
                house.putThing(c, i, Edges.SPARE);
            }
        }
        house.lay(Edges.NOTHING, Edges.SPARE);
    }

    /** An index column of this kind with the places from last to first. */
    static void backwards(ColumnHouse house, int c, int kind, int n) {
        house.make(c, kind, n);
        for (int i = 0; i < n; i++) {
            Fixture.put(house, c, i, kind, n - 1 - i);
        }
    }

    private static void copyEachPlace() {
        EDGES.due.sentence("copy: Each place of the row in column d gets what the same place of that in column c has. Answers how many places");
        for (int kind = 0; kind <= 11; kind++) {
            for (int n : new int[] {0, 1, 24}) {
                ColumnHouse house = new ColumnHouse();
                fill(house, 1, kind, n);
                house.make(2, kind, n);
                EDGES.done("copy " + n + " places of " + kind, house, n, h -> h.copy(1, 2));
                EDGES.done("all alike", house, 1, h -> h.alike(1, 2));
                EDGES.done("copy to itself", house, n, h -> h.copy(1, 1));
                EDGES.done("all alike", house, 1, h -> h.alike(1, 2));
            }
        }
    }

    private static void copyNoRows() {
        EDGES.due.sentence("copy: 1; 2 (of one of them); 3 (of one of them)");
        for (int c : Edges.outside(11)) {
            EDGES.refused(1, "copy from " + c, h -> h.copy(c, Edges.INTS));
            EDGES.refused(1, "copy to " + c, h -> h.copy(Edges.INTS, c));
        }
        EDGES.refused(2, "copy from NOTHING", h -> h.copy(Edges.NOTHING, Edges.INTS));
        EDGES.refused(2, "copy to NOTHING", h -> h.copy(Edges.INTS, Edges.NOTHING));
        EDGES.refused(2, "copy NOTHING to a card", h -> h.copy(Edges.NOTHING, Edges.CARD));
        EDGES.refused(2, "copy a card to NOTHING", h -> h.copy(Edges.CARD, Edges.NOTHING));
        EDGES.refused(3, "copy from a card", h -> h.copy(Edges.CARD, Edges.INTS));
        EDGES.refused(3, "copy to a card", h -> h.copy(Edges.INTS, Edges.CARD));
    }

    private static void copyOtherLengths() {
        EDGES.due.sentence("copy: 4: they are not as long as each other; told before 5");
        for (int from = 0; from <= 11; from++) {
            for (int to = 0; to <= 11; to++) {
                int[][] lengths = {{0, 1}, {1, 0}, {2, 3}, {3, 2}};
                for (int[] n : lengths) {
                    ColumnHouse house = new ColumnHouse();
                    house.make(1, from, n[0]);
                    house.make(2, to, n[1]);
                    EDGES.refused(4, "copy " + n[0] + " places to " + n[1], house, h -> h.copy(1, 2));
                }
            }
        }
        ColumnHouse house = new ColumnHouse();
        house.make(1, 4, 24);
        house.make(2, 4, 23);
        EDGES.refused(4, "copy the most places to one less", house, h -> h.copy(1, 2));
    }

    private static void copyWhatDoesNotGo() {
        EDGES.due.sentence("copy: place by place 5: it doesn't go into d's sort, or doesn't fit there");
        for (int from = 0; from <= 7; from++) {
            for (int to = 0; to <= 7; to++) {
                if (!Edges.goes(from, to)) {
                    ColumnHouse house = new ColumnHouse();
                    Fixture.row(house, 1, from, 0, 8);
                    Fixture.row(house, 2, to, 1, 1);
                    EDGES.refused(5, "copy " + from + " to " + to, house, h -> h.copy(1, 2));
                    house.make(1, from, 0);
                    house.make(2, to, 0);
                    EDGES.done("where no place is none is amiss", house, 0, h -> h.copy(1, 2));
                }
            }
        }
        ColumnHouse house = new ColumnHouse();
        Fixture.things(house, 1, 8, Edges.SPARE, 14, 1, 14, 2, 13, 3);
        Fixture.things(house, 2, 9, Edges.SPARE, 14, 4, -1, 0, 14, 5);
        house.lay(Edges.NOTHING, Edges.SPARE);
        EDGES.refused(5, "copy: a PASS at the last place", house, h -> h.copy(1, 2));
    }

    private static void copyBetweenValuesAndThings() {
        EDGES.due.sentence("copy: a value doesn't go into a row of things, a thing or NOTHING not into a PLAIN ROW");
        for (int plain = 0; plain <= 7; plain++) {
            for (int things = 8; things <= 11; things++) {
                ColumnHouse house = new ColumnHouse();
                fill(house, 1, plain, 2);
                fill(house, 2, things, 2);
                house.make(3, things, 2);
                EDGES.refused(5, "values to things", house, h -> h.copy(1, 2));
                EDGES.refused(5, "things to values", house, h -> h.copy(2, 1));
                EDGES.refused(5, "NOTHING to values", house, h -> h.copy(3, 1));
                house.make(1, plain, 0);
                house.make(2, things, 0);
                EDGES.done("where no place is none is amiss", house, 0, h -> h.copy(1, 2));
                EDGES.done("where no place is none is amiss", house, 0, h -> h.copy(2, 1));
            }
        }
    }

    /** At each place in turn a CARD, which doesn't fit: nothing is copied, not even the places ahead of it. */
    private static void copyTheFirstPlaceAmiss() {
        EDGES.due.sentence("copy: A refused call answers 0 and changes nothing but WHY, at whichever place it is amiss");
        for (int i = 0; i < 4; i++) {
            ColumnHouse house = new ColumnHouse();
            Fixture.things(house, 1, 8, 3, 14, 1, 14, 2, 14, 3, 14, 4);
            house.make(3, 12, 9);
            house.putThing(1, i, 3);
            fill(house, 2, 9, 4);
            EDGES.refused(5, "copy: a CARD at " + i, house, h -> h.copy(1, 2));
        }
    }

    private static void gatherEachPlace() {
        EDGES.due.sentence("gather: Place k of the row in column d gets what that in column c has at the place that column x has at k, as an INT");
        for (int kind = 0; kind <= 11; kind++) {
            for (int n : new int[] {0, 1, 24}) {
                for (int by = 1; by <= 4; by++) {
                    ColumnHouse house = new ColumnHouse();
                    fill(house, 1, kind, n);
                    backwards(house, 2, by, n);
                    house.make(3, kind, n);
                    EDGES.done("gather " + n + " of " + kind + " by " + by, house, n, h -> h.gather(1, 2, 3));
                    EDGES.done("gather them back", house, n, h -> h.gather(3, 2, 3));
                    EDGES.done("all alike", house, 1, h -> h.alike(1, 3));
                }
            }
        }
        ColumnHouse house = new ColumnHouse();
        fill(house, 1, 4, 24);
        Fixture.row(house, 2, 1, 23, 0, 23, 1, 0);
        house.make(3, 5, 5);
        EDGES.done("gather few of many, some twice", house, 5, h -> h.gather(1, 2, 3));
        EDGES.row("gathered", house, 3, "24 1 24 2 1");
        house.make(2, 1, 24);
        house.make(3, 5, 24);
        Fixture.row(house, 1, 4, 7);
        EDGES.done("gather one to many", house, 24, h -> h.gather(1, 2, 3));
        EDGES.due.is("all of them", house.sum(3), 24 * 7);
    }

    private static void gatherNoRows() {
        EDGES.due.sentence("gather: 1; 2 (of one of the three); 3 (of one of them)");
        for (int c : Edges.outside(11)) {
            EDGES.refused(1, "gather from " + c, h -> h.gather(c, Edges.BYTES, Edges.INTS));
            EDGES.refused(1, "gather by " + c, h -> h.gather(Edges.INTS, c, Edges.INTS));
            EDGES.refused(1, "gather to " + c, h -> h.gather(Edges.INTS, Edges.BYTES, c));
        }
        int[] columns = {Edges.NOTHING, Edges.CARD};
        for (int k = 0; k < 2; k++) {
            int c = columns[k];
            EDGES.refused(2 + k, "gather from", h -> h.gather(c, Edges.BYTES, Edges.INTS));
            EDGES.refused(2 + k, "gather by", h -> h.gather(Edges.INTS, c, Edges.INTS));
            EDGES.refused(2 + k, "gather to", h -> h.gather(Edges.INTS, Edges.BYTES, c));
            EDGES.refused(2, "gather from a card", h -> h.gather(Edges.CARD, Edges.NOTHING, c));
            EDGES.refused(2, "gather to a card", h -> h.gather(c, Edges.NOTHING, Edges.CARD));
            EDGES.refused(2, "gather by a card", h -> h.gather(Edges.NOTHING, Edges.CARD, c));
        }
    }

    private static void gatherByNoInts() {
        EDGES.due.sentence("gather: 6: the sort of the row in x doesn't go into INT, or it is no PLAIN ROW; told before 4 and 5");
        for (int kind : new int[] {0, 5, 6, 7, 8, 9, 10, 11}) {
            for (int n : new int[] {0, 1, 3, 24}) {
                String name = "gather by " + n + " of " + kind;
                EDGES.refused(6, name, threeRows(4, 3, kind, n, 4, n), h -> h.gather(1, 2, 3));
                EDGES.refused(6, name + ": before lengths", threeRows(4, 3, kind, n, 4, 2), h -> h.gather(1, 2, 3));
                EDGES.refused(6, name + ": before values", threeRows(4, 3, kind, n, 8, n), h -> h.gather(1, 2, 3));
            }
        }
    }

    /** Columns 1, 2, 3: rows of these kinds and lengths. */
    private static ColumnHouse threeRows(int kind, int n, int ofX, int lengthOfX, int ofThird, int lengthOfThird) {
        ColumnHouse house = new ColumnHouse();
        fill(house, 1, kind, n);
        house.make(2, ofX, lengthOfX);
        house.make(3, ofThird, lengthOfThird);
        return house;
    }

    private static void gatherOtherLengths() {
        EDGES.due.sentence("gather: 4: x and d are not as long as each other; told before what is amiss place by place");
        int[][] lengths = {{0, 1}, {1, 0}, {2, 3}, {3, 2}, {24, 23}, {23, 24}};
        for (int[] n : lengths) {
            String name = "gather by " + n[0] + " to " + n[1];
            EDGES.refused(4, name, threeRows(4, n[1], 1, n[0], 4, n[1]), h -> h.gather(1, 2, 3));
            EDGES.refused(4, name + ": before places", threeRows(4, 0, 1, n[0], 4, n[1]), h -> h.gather(1, 2, 3));
            EDGES.refused(4, name + ": before values", threeRows(4, n[1], 1, n[0], 8, n[1]), h -> h.gather(1, 2, 3));
        }
        ColumnHouse house = new ColumnHouse();
        fill(house, 1, 4, 2);
        house.make(2, 1, 3);
        house.make(3, 4, 3);
        EDGES.done("c may be of another length", house, 3, h -> h.gather(1, 2, 3));
    }

    /** Places of a row of three places in column c: the last one is taken, the next one is not. */
    private static void gatherNoSuchPlace() {
        EDGES.due.sentence("gather: place by place (k) 4: c has no such place");
        for (int place : new int[] {-1, 3, LEAST, MOST, 1 << 8, 1 << 16}) {
            for (int k = 0; k < 3; k++) {
                ColumnHouse house = new ColumnHouse();
                fill(house, 1, 4, 3);
                house.make(2, 4, 3);
                Fixture.put(house, 2, k, 4, place);
                Fixture.row(house, 3, 4, 7, 8, 9);
                EDGES.refused(4, "gather place " + place + " at " + k, house, h -> h.gather(1, 2, 3));
            }
        }
        ColumnHouse house = new ColumnHouse();
        house.make(1, 4, 0);
        house.make(2, 1, 1);
        Fixture.row(house, 3, 4, 7);
        EDGES.refused(4, "gather from a row of no place", house, h -> h.gather(1, 2, 3));
        fill(house, 1, 4, 24);
        Fixture.row(house, 2, 1, 23);
        EDGES.done("the last of the most places", house, 1, h -> h.gather(1, 2, 3));
        EDGES.row("it", house, 3, "24");
        Fixture.row(house, 2, 1, 24);
        EDGES.refused(4, "one after the most places", house, h -> h.gather(1, 2, 3));
        Fixture.row(house, 2, 2, 65535);
        EDGES.refused(4, "a CHAR is not below 0, but not a place", house, h -> h.gather(1, 2, 3));
    }

    private static void gatherWhatDoesNotGo() {
        EDGES.due.sentence("gather: place by place (k) 5: as at copy()");
        for (int from = 0; from <= 7; from++) {
            for (int to = 0; to <= 11; to++) {
                if (to >= 8 || !Edges.goes(from, to)) {
                    ColumnHouse house = new ColumnHouse();
                    Fixture.row(house, 1, from, 0, 8);
                    house.make(2, 1, 3);
                    fill(house, 3, to, 3);
                    EDGES.refused(5, "gather " + from + " to " + to, house, h -> h.gather(1, 2, 3));
                    house.make(2, 1, 0);
                    house.make(3, to, 0);
                    EDGES.done("where no place is none is amiss", house, 0, h -> h.gather(1, 2, 3));
                }
            }
        }
        for (int things = 8; things <= 11; things++) {
            for (int plain = 0; plain <= 7; plain++) {
                ColumnHouse house = new ColumnHouse();
                house.make(1, things, 1);
                house.make(2, 1, 3);
                fill(house, 3, plain, 3);
                EDGES.refused(5, "gather NOTHING to " + plain, house, h -> h.gather(1, 2, 3));
                fill(house, 1, things, 1);
                EDGES.refused(5, "gather a thing to " + plain, house, h -> h.gather(1, 2, 3));
            }
        }
    }

    /** Column c: a BADGE and a CARD, so that place 0 fits among BADGES, 1 doesn't, and 2 is none. */
    private static void gatherAmiss(int reason, long... places) {
        ColumnHouse house = new ColumnHouse();
        Fixture.things(house, 1, 8, Edges.SPARE, 14, 1, 12, 2);
        Fixture.row(house, 2, 4, places);
        fill(house, 3, 9, places.length);
        EDGES.refused(reason, "gather", house, h -> h.gather(1, 2, 3));
    }

    private static void gatherTheFirstPlaceAmiss() {
        EDGES.due.sentence("gather: the first place at which something is amiss counts, and there what is told first");
        gatherAmiss(5, 1, 2);
        gatherAmiss(4, 2, 1);
        gatherAmiss(5, 0, 1, 2);
        gatherAmiss(4, 0, 2, 1);
        gatherAmiss(5, 0, 0, 0, 1);
        gatherAmiss(4, 0, 0, 0, -1);
        ColumnHouse house = new ColumnHouse();
        Fixture.row(house, 1, 5, 1, 2);
        Fixture.row(house, 2, 1, 2);
        Fixture.row(house, 3, 4, 7);
        EDGES.refused(4, "gather: no place, of a sort that doesn't go", house, h -> h.gather(1, 2, 3));
    }

    private static void scatterEachPlace() {
        EDGES.due.sentence("scatter: The place that column x has at k, as an INT, of the row in column d gets what that in column c has at k. Answers how many places x has");
        for (int kind = 0; kind <= 11; kind++) {
            for (int n : new int[] {0, 1, 24}) {
                for (int by = 1; by <= 4; by++) {
                    ColumnHouse house = new ColumnHouse();
                    fill(house, 1, kind, n);
                    backwards(house, 2, by, n);
                    house.make(3, kind, n);
                    EDGES.done("scatter " + n + " of " + kind + " by " + by, house, n, h -> h.scatter(1, 2, 3));
                    EDGES.done("scatter them back", house, n, h -> h.scatter(3, 2, 3));
                    EDGES.done("all alike", house, 1, h -> h.alike(1, 3));
                }
            }
        }
        ColumnHouse house = new ColumnHouse();
        Fixture.row(house, 1, 1, 7, 8);
        Fixture.row(house, 2, 1, 23, 0);
        house.make(3, 4, 24);
        EDGES.done("scatter few to many", house, 2, h -> h.scatter(1, 2, 3));
        EDGES.due.is("the first", house.number(3, 0, 4), 8);
        EDGES.due.is("the last", house.number(3, 23, 4), 7);
        EDGES.due.is("no others", house.sum(3), 15);
        house.make(1, 4, 0);
        house.make(2, 1, 0);
        EDGES.done("scatter none to many", house, 0, h -> h.scatter(1, 2, 3));
        EDGES.due.is("as it was", house.sum(3), 15);
    }

    private static void scatterALaterOverAnEarlier() {
        EDGES.due.sentence("scatter: k from 0 on, a later one over an earlier one");
        ColumnHouse house = new ColumnHouse();
        Fixture.row(house, 1, 4, 7, 8, 9, 10);
        Fixture.row(house, 2, 1, 1, 0, 1, 1);
        house.make(3, 4, 3);
        EDGES.done("scatter", house, 4, h -> h.scatter(1, 2, 3));
        EDGES.row("scattered", house, 3, "8 10 0");
        house.make(1, 4, 24);
        Fixture.put(house, 1, 23, 4, 5);
        house.make(2, 1, 24);
        Fixture.row(house, 3, 4, 3);
        EDGES.done("the most places to one", house, 24, h -> h.scatter(1, 2, 3));
        EDGES.row("the last one's", house, 3, "5");
        Fixture.things(house, 1, 8, Edges.SPARE, 14, 1, -1, 0);
        house.make(2, 1, 2);
        fill(house, 3, 9, 1);
        EDGES.done("NOTHING over a BADGE", house, 2, h -> h.scatter(1, 2, 3));
        EDGES.due.is("NOTHING", house.what(3, 0), -1);
    }

    private static void scatterNoRows() {
        EDGES.due.sentence("scatter: 1; 2 (of one of the three); 3 (of one of them)");
        for (int c : Edges.outside(11)) {
            EDGES.refused(1, "scatter from " + c, h -> h.scatter(c, Edges.BYTES, Edges.INTS));
            EDGES.refused(1, "scatter by " + c, h -> h.scatter(Edges.INTS, c, Edges.INTS));
            EDGES.refused(1, "scatter to " + c, h -> h.scatter(Edges.INTS, Edges.BYTES, c));
        }
        int[] columns = {Edges.NOTHING, Edges.CARD};
        for (int k = 0; k < 2; k++) {
            int c = columns[k];
            EDGES.refused(2 + k, "scatter from", h -> h.scatter(c, Edges.BYTES, Edges.INTS));
            EDGES.refused(2 + k, "scatter by", h -> h.scatter(Edges.INTS, c, Edges.INTS));
            EDGES.refused(2 + k, "scatter to", h -> h.scatter(Edges.INTS, Edges.BYTES, c));
            EDGES.refused(2, "scatter from a card", h -> h.scatter(Edges.CARD, Edges.NOTHING, c));
            EDGES.refused(2, "scatter to a card", h -> h.scatter(c, Edges.NOTHING, Edges.CARD));
            EDGES.refused(2, "scatter by a card", h -> h.scatter(Edges.NOTHING, Edges.CARD, c));
        }
    }

    private static void scatterByNoInts() {
        EDGES.due.sentence("scatter: 6: as at gather(); told before 4 and 5");
        for (int kind : new int[] {0, 5, 6, 7, 8, 9, 10, 11}) {
            for (int n : new int[] {0, 1, 3, 24}) {
                String name = "scatter by " + n + " of " + kind;
                EDGES.refused(6, name, threeRows(4, n, kind, n, 4, 3), h -> h.scatter(1, 2, 3));
                EDGES.refused(6, name + ": before lengths", threeRows(4, 2, kind, n, 4, 3), h -> h.scatter(1, 2, 3));
                EDGES.refused(6, name + ": before values", threeRows(4, n, kind, n, 8, 3), h -> h.scatter(1, 2, 3));
            }
        }
    }

    private static void scatterOtherLengths() {
        EDGES.due.sentence("scatter: 4: x and c are not as long as each other; told before what is amiss place by place");
        int[][] lengths = {{0, 1}, {1, 0}, {2, 3}, {3, 2}, {24, 23}, {23, 24}};
        for (int[] n : lengths) {
            String name = "scatter " + n[1] + " by " + n[0];
            EDGES.refused(4, name, threeRows(4, n[1], 1, n[0], 4, n[0]), h -> h.scatter(1, 2, 3));
            EDGES.refused(4, name + ": before places", threeRows(4, n[1], 1, n[0], 4, 0), h -> h.scatter(1, 2, 3));
            EDGES.refused(4, name + ": before values", threeRows(4, n[1], 1, n[0], 8, n[0]), h -> h.scatter(1, 2, 3));
        }
        ColumnHouse house = new ColumnHouse();
        fill(house, 1, 4, 3);
        house.make(2, 1, 3);
        house.make(3, 4, 1);
        EDGES.done("d may be of another length", house, 3, h -> h.scatter(1, 2, 3));
    }

    private static void scatterNoSuchPlace() {
        EDGES.due.sentence("scatter: place by place (k) 4: d has no such place");
        for (int place : new int[] {-1, 3, LEAST, MOST, 1 << 8, 1 << 16}) {
            for (int k = 0; k < 3; k++) {
                ColumnHouse house = new ColumnHouse();
                fill(house, 1, 4, 3);
                house.make(2, 4, 3);
                Fixture.put(house, 2, k, 4, place);
                Fixture.row(house, 3, 4, 7, 8, 9);
                EDGES.refused(4, "scatter to place " + place + " at " + k, house, h -> h.scatter(1, 2, 3));
            }
        }
        ColumnHouse house = new ColumnHouse();
        Fixture.row(house, 1, 4, 7);
        house.make(2, 1, 1);
        house.make(3, 4, 0);
        EDGES.refused(4, "scatter to a row of no place", house, h -> h.scatter(1, 2, 3));
        house.make(3, 4, 24);
        Fixture.row(house, 2, 1, 23);
        EDGES.done("the last of the most places", house, 1, h -> h.scatter(1, 2, 3));
        EDGES.due.is("it", house.number(3, 23, 4), 7);
        Fixture.row(house, 2, 1, 24);
        EDGES.refused(4, "one after the most places", house, h -> h.scatter(1, 2, 3));
        Fixture.row(house, 2, 2, 65535);
        EDGES.refused(4, "a CHAR is not below 0, but not a place", house, h -> h.scatter(1, 2, 3));
    }

    private static void scatterWhatDoesNotGo() {
        EDGES.due.sentence("scatter: place by place (k) 5: as at copy()");
        for (int from = 0; from <= 7; from++) {
            for (int to = 0; to <= 11; to++) {
                if (to >= 8 || !Edges.goes(from, to)) {
                    ColumnHouse house = new ColumnHouse();
                    Fixture.row(house, 1, from, 0, 8);
                    house.make(2, 1, 2);
                    fill(house, 3, to, 3);
                    EDGES.refused(5, "scatter " + from + " to " + to, house, h -> h.scatter(1, 2, 3));
                    house.make(1, from, 0);
                    house.make(2, 1, 0);
                    EDGES.done("where no place is none is amiss", house, 0, h -> h.scatter(1, 2, 3));
                }
            }
        }
        for (int things = 8; things <= 11; things++) {
            for (int plain = 0; plain <= 7; plain++) {
                ColumnHouse house = new ColumnHouse();
                house.make(1, things, 1);
                house.make(2, 1, 1);
                fill(house, 3, plain, 3);
                EDGES.refused(5, "scatter NOTHING to " + plain, house, h -> h.scatter(1, 2, 3));
                fill(house, 1, things, 1);
                EDGES.refused(5, "scatter a thing to " + plain, house, h -> h.scatter(1, 2, 3));
            }
        }
    }

    /** Column c: a BADGE, a CARD, a BADGE; column d: two BADGES. */
    private static void scatterAmiss(int reason, long... places) {
        ColumnHouse house = new ColumnHouse();
        Fixture.things(house, 1, 8, Edges.SPARE, 14, 1, 12, 2, 14, 3);
        Fixture.row(house, 2, 4, places);
        fill(house, 3, 9, 2);
        EDGES.refused(reason, "scatter", house, h -> h.scatter(1, 2, 3));
    }

    private static void scatterTheFirstPlaceAmiss() {
        EDGES.due.sentence("scatter: the first place at which something is amiss counts, and there what is told first");
        scatterAmiss(5, 0, 1, 2);
        scatterAmiss(4, 2, 1, 0);
        scatterAmiss(4, 0, 2, 1);
        scatterAmiss(4, 0, -1, 1);
        scatterAmiss(5, 0, 0, 0);
        // Amiss, though a later one that fits would come over it.
        scatterAmiss(5, 1, 0, 0);
    }
}
