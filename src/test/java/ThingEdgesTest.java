/** Sentences about things, and promises 1 to 7 and 25: how long rows are, what fits, tags and loads. */
public final class ThingEdgesTest {
    private static final Edges EDGES = new Edges();

    private static final int LEAST = Integer.MIN_VALUE;
    private static final int MOST = Integer.MAX_VALUE;

    public static void main(String[] args) {
        aNewObject();
        rowsFromNoPlaceToTheMost();
        valuesAreZeroAtFirst();
        thingsAreNothingAtFirst();
        cardsHaveATag();
        makeANewThing();
        makeNoColumn();
        makeNoKind();
        makeNoLength();
        whatFits();
        nothingFits();
        itIsTheSameOne();
        layAThing();
        layNothing();
        layRefused();
        placesOfRows();
        placesRefused();
        kindOfThings();
        kindRefused();
        tagOfCards();
        tagRefused();
        loadOfCardsAndPasses();
        loadOfBadges();
        loadRefused();
        whyItself();
        EDGES.due.end();
    }

    private static void aNewObject() {
        EDGES.due.sentence("Promise 1: All columns hold NOTHING; WHY 0.");
        EDGES.due.is("why at first", new ColumnHouse().why(), 0);
        ColumnHouse used = Edges.house();
        used.kind(12);
        ColumnHouse house = new ColumnHouse();
        EDGES.due.is("why, though another object has one", house.why(), 0);
        for (int c = 0; c < 12; c++) {
            EDGES.due.is("kind of " + c, house.kind(c), -1);
            EDGES.due.is("why of it", house.why(), 0);
        }
    }

    private static void rowsFromNoPlaceToTheMost() {
        EDGES.due.sentence("ROWS, 0 to 24 PLACES long, from 0");
        for (int kind = 0; kind <= 11; kind++) {
            for (int n : new int[] {0, 1, 23, 24}) {
                ColumnHouse house = new ColumnHouse();
                int made = kind;
                EDGES.done("make " + kind + " of " + n, house, 1, h -> h.make(1, made, n));
                EDGES.done("places", house, n, h -> h.places(1));
                EDGES.done("kind", house, kind, h -> h.kind(1));
                for (int i : Edges.outside(n - 1)) {
                    EDGES.refused(4, "what at " + i + " of " + n, oneRow(kind, n), h -> h.what(1, i));
                }
                if (n > 0) {
                    EDGES.done("the first place", house, kind <= 7 ? kind : -1, h -> h.what(1, 0));
                    EDGES.done("the last place", house, kind <= 7 ? kind : -1, h -> h.what(1, n - 1));
                }
            }
        }
    }

    private static ColumnHouse oneRow(int kind, int n) {
        ColumnHouse house = new ColumnHouse();
        house.make(1, kind, n);
        return house;
    }

    private static void valuesAreZeroAtFirst() {
        EDGES.due.sentence("a place has a value, 0 at first");
        for (int kind = 0; kind <= 7; kind++) {
            ColumnHouse house = new ColumnHouse();
            house.make(1, kind, 24);
            for (int i = 0; i < 24; i++) {
                EDGES.due.is("the sort", house.what(1, i), kind);
                EDGES.due.point("the value", kind <= 5 ? house.number(1, i, kind) : house.point(1, i, kind), 0.0);
                EDGES.due.is("why", house.why(), 0);
            }
        }
    }

    private static void thingsAreNothingAtFirst() {
        EDGES.due.sentence("a place has a thing or NOTHING, NOTHING at first");
        for (int kind = 8; kind <= 11; kind++) {
            ColumnHouse house = new ColumnHouse();
            house.make(1, kind, 24);
            for (int i = 0; i < 24; i++) {
                house.make(2, 12, 1);
                EDGES.due.is("what", house.what(1, i), -1);
                EDGES.due.is("take", house.take(1, i, 2), 0);
                EDGES.due.is("why", house.why(), 0);
                EDGES.due.is("NOTHING", house.kind(2), -1);
            }
        }
    }

    private static void cardsHaveATag() {
        EDGES.due.sentence("CARDS have kinds 12 CARD, 13 PASS, 14 BADGE, and a TAG, an int");
        for (int kind = 12; kind <= 14; kind++) {
            for (int tag : new int[] {0, 1, -1, 24, 25, MOST, LEAST}) {
                ColumnHouse house = new ColumnHouse();
                int made = kind;
                EDGES.done("make " + kind, house, 1, h -> h.make(1, made, tag));
                EDGES.done("kind", house, kind, h -> h.kind(1));
                EDGES.done("tag", house, tag, h -> h.tag(1));
            }
        }
    }

    private static void makeANewThing() {
        EDGES.due.sentence("make: Column c holds a new thing of kind k");
        ColumnHouse house = Edges.house();
        house.lay(Edges.INTS, Edges.SPARE);
        EDGES.done("make over a row", house, 1, h -> h.make(Edges.INTS, 4, 3));
        EDGES.due.text("the new row", Fixture.values(house, Edges.INTS), "0 0 0");
        EDGES.due.text("the old row", Fixture.values(house, Edges.SPARE), "5 -3 5");
        ColumnHouse cards = new ColumnHouse();
        cards.make(1, 8, 1);
        cards.make(2, 8, 1);
        for (int c = 1; c <= 2; c++) {
            cards.make(3, 12, 7);
            cards.putThing(c, 0, 3);
        }
        EDGES.done("two cards with one tag are two", cards, 0, h -> h.alike(1, 2));
    }

    private static void makeNoColumn() {
        EDGES.due.sentence("make: 1 (c)");
        for (int kind = 0; kind <= 14; kind++) {
            int made = kind;
            for (int c : Edges.outside(11)) {
                EDGES.refused(1, "make in " + c, h -> h.make(c, made, 2));
            }
        }
    }

    private static void makeNoKind() {
        EDGES.due.sentence("make: 1 (k not 0 .. 14)");
        for (int kind : Edges.outside(14)) {
            for (int n : new int[] {0, 24, 25}) {
                EDGES.refused(1, "make of kind " + kind, h -> h.make(Edges.INTS, kind, n));
                EDGES.refused(1, "make of kind " + kind + " where NOTHING is", h -> h.make(Edges.NOTHING, kind, n));
            }
        }
        EDGES.done("kind 0", Edges.house(), 1, h -> h.make(Edges.INTS, 0, 0));
        EDGES.done("kind 14", Edges.house(), 1, h -> h.make(Edges.INTS, 14, 0));
    }

    private static void makeNoLength() {
        EDGES.due.sentence("make: 1 (of rows n not 0 .. 24)");
        for (int kind = 0; kind <= 14; kind++) {
            int made = kind;
            for (int n : Edges.outside(24)) {
                if (kind <= 11) {
                    EDGES.refused(1, "make " + kind + " of " + n, h -> h.make(Edges.INTS, made, n));
                } else {
                    EDGES.done("a card with " + n, Edges.house(), 1, h -> h.make(Edges.INTS, made, n));
                }
            }
        }
    }

    /** Asked of all four calls that bring a thing to a place. */
    private static void whatFits() {
        EDGES.due.sentence("What FITS: CARDS: 12, 13, 14. BADGES: 14. SHEETS: a row of INTS. DECKS: a row of CARDS or of BADGES");
        for (int row = 8; row <= 11; row++) {
            for (int kind = 0; kind <= 14; kind++) {
                fitsByHand(row, kind);
                for (int from = 8; from <= 11; from++) {
                    if (Edges.fits(kind, from)) {
                        fitsFromRow(from, row, kind);
                    }
                }
            }
        }
    }

    private static void fitsByHand(int row, int kind) {
        ColumnHouse house = new ColumnHouse();
        house.make(1, row, 1);
        house.make(2, kind, 1);
        if (Edges.fits(kind, row)) {
            EDGES.done("putThing " + kind + " into " + row, house, 1, h -> h.putThing(1, 0, 2));
            EDGES.done("it is there", house, kind, h -> h.what(1, 0));
        } else {
            EDGES.refused(5, "putThing " + kind + " into " + row, house, h -> h.putThing(1, 0, 2));
        }
    }

    private static void fitsFromRow(int from, int row, int kind) {
        ColumnHouse house = new ColumnHouse();
        house.make(1, from, 1);
        house.make(2, kind, 1);
        house.putThing(1, 0, 2);
        house.make(3, row, 1);
        house.make(4, 1, 1);
        String name = kind + " from " + from + " into " + row;
        if (Edges.fits(kind, row)) {
            EDGES.done("copy " + name, house, 1, h -> h.copy(1, 3));
            EDGES.done("the same", house, 1, h -> h.alike(1, 3));
            house.make(3, row, 1);
            EDGES.done("gather " + name, house, 1, h -> h.gather(1, 4, 3));
            EDGES.done("the same", house, 1, h -> h.alike(1, 3));
            house.make(3, row, 1);
            EDGES.done("scatter " + name, house, 1, h -> h.scatter(1, 4, 3));
            EDGES.done("the same", house, 1, h -> h.alike(1, 3));
        } else {
            EDGES.refused(5, "copy " + name, house, h -> h.copy(1, 3));
            EDGES.refused(5, "gather " + name, house, h -> h.gather(1, 4, 3));
            EDGES.refused(5, "scatter " + name, house, h -> h.scatter(1, 4, 3));
        }
    }

    private static void nothingFits() {
        EDGES.due.sentence("What FITS a row of things: NOTHING");
        int[] fitting = {12, 14, 4, 8};
        for (int row = 8; row <= 11; row++) {
            for (int from = 8; from <= 11; from++) {
                ColumnHouse house = new ColumnHouse();
                house.make(1, from, 1);
                house.make(4, 1, 1);
                Fixture.things(house, 3, row, 5, fitting[row - 8], 2);
                EDGES.done("copy", house, 1, h -> h.copy(1, 3));
                EDGES.done("NOTHING by copy", house, -1, h -> h.what(3, 0));
                house.putThing(3, 0, 5);
                EDGES.done("gather", house, 1, h -> h.gather(1, 4, 3));
                EDGES.done("NOTHING by gather", house, -1, h -> h.what(3, 0));
                house.putThing(3, 0, 5);
                EDGES.done("scatter", house, 1, h -> h.scatter(1, 4, 3));
                EDGES.done("NOTHING by scatter", house, -1, h -> h.what(3, 0));
                house.putThing(3, 0, 5);
                EDGES.done("putThing", house, 0, h -> h.putThing(3, 0, 0));
                EDGES.done("NOTHING by putThing", house, -1, h -> h.what(3, 0));
            }
        }
    }

    private static void itIsTheSameOne() {
        EDGES.due.sentence("One thing may be in several columns and places: it is the same one");
        ColumnHouse house = new ColumnHouse();
        house.make(1, 4, 1);
        house.make(2, 10, 24);
        house.putThing(2, 0, 1);
        house.putThing(2, 23, 1);
        house.lay(1, 3);
        house.take(2, 23, 4);
        Fixture.put(house, 3, 0, 4, 9);
        for (int c : new int[] {1, 3, 4}) {
            EDGES.done("the INT in column " + c, house, 9, h -> h.number(c, 0, 4));
        }
        house.take(2, 0, 5);
        EDGES.done("the INT from a place", house, 9, h -> h.number(5, 0, 4));
        house.make(6, 8, 1);
        house.make(7, 11, 2);
        house.putThing(7, 0, 6);
        house.putThing(7, 1, 6);
        house.make(8, 14, 3);
        house.putThing(6, 0, 8);
        house.take(7, 1, 9);
        EDGES.done("the BADGE in the row in a place", house, 14, h -> h.what(9, 0));
        EDGES.done("the same row", house, 1, h -> h.alike(6, 9));
    }

    private static void layAThing() {
        EDGES.due.sentence("lay: Column d holds what column c holds, too. Answers 1 if that is a thing");
        for (int c = Edges.INTS; c <= Edges.CARD; c++) {
            int from = c;
            ColumnHouse house = Edges.house();
            int kind = house.kind(c);
            EDGES.done("lay " + c, house, 1, h -> h.lay(from, Edges.SPARE));
            EDGES.done("it is there", house, kind, h -> h.kind(Edges.SPARE));
            EDGES.done("it is still here", house, kind, h -> h.kind(from));
            EDGES.done("lay it on itself", house, 1, h -> h.lay(from, from));
            EDGES.done("it is still here", house, kind, h -> h.kind(from));
        }
    }

    private static void layNothing() {
        EDGES.due.sentence("lay: 0 if NOTHING");
        ColumnHouse house = Edges.house();
        EDGES.done("lay NOTHING on NOTHING", house, 0, h -> h.lay(Edges.NOTHING, Edges.SPARE));
        EDGES.done("lay NOTHING on itself", house, 0, h -> h.lay(Edges.NOTHING, Edges.NOTHING));
        EDGES.done("lay NOTHING on a row", house, 0, h -> h.lay(Edges.NOTHING, Edges.INTS));
        EDGES.done("NOTHING is there", house, -1, h -> h.kind(Edges.INTS));
    }

    private static void layRefused() {
        EDGES.due.sentence("lay: Reason: 1");
        for (int c : Edges.outside(11)) {
            EDGES.refused(1, "lay from " + c, h -> h.lay(c, Edges.INTS));
            EDGES.refused(1, "lay to " + c, h -> h.lay(Edges.INTS, c));
            EDGES.refused(1, "lay NOTHING to " + c, h -> h.lay(Edges.NOTHING, c));
            EDGES.refused(1, "lay from " + c + " to it", h -> h.lay(c, c));
        }
    }

    private static void placesOfRows() {
        EDGES.due.sentence("places: How many places the row in column c has");
        for (int kind = 0; kind <= 11; kind++) {
            for (int n = 0; n <= 24; n++) {
                ColumnHouse house = new ColumnHouse();
                house.make(1, kind, n);
                EDGES.done("places", house, n, h -> h.places(1));
            }
        }
    }

    private static void placesRefused() {
        EDGES.due.sentence("places: Reasons: 1; 2; 3");
        for (int c : Edges.outside(11)) {
            EDGES.refused(1, "places of " + c, h -> h.places(c));
        }
        EDGES.refused(2, "places of NOTHING", h -> h.places(Edges.NOTHING));
        EDGES.refused(3, "places of a card", h -> h.places(Edges.CARD));
    }

    private static void kindOfThings() {
        EDGES.due.sentence("kind: The kind of the thing in column c; -1 NOTHING");
        for (int kind = 0; kind <= 14; kind++) {
            ColumnHouse house = new ColumnHouse();
            int want = kind;
            house.make(11, kind, 0);
            EDGES.done("kind", house, want, h -> h.kind(11));
            EDGES.done("kind of NOTHING", house, -1, h -> h.kind(10));
        }
    }

    private static void kindRefused() {
        EDGES.due.sentence("kind: Reason: 1");
        for (int c : Edges.outside(11)) {
            EDGES.refused(1, "kind of " + c, h -> h.kind(c));
        }
    }

    private static void tagOfCards() {
        EDGES.due.sentence("tag: The TAG of the card in column c");
        for (int kind = 12; kind <= 14; kind++) {
            for (int tag : new int[] {0, 1, -1, MOST, LEAST}) {
                ColumnHouse house = new ColumnHouse();
                house.make(0, kind, tag);
                EDGES.done("tag of " + kind, house, tag, h -> h.tag(0));
            }
        }
    }

    private static void tagRefused() {
        EDGES.due.sentence("tag: Reasons: 1; 5: it holds no card");
        for (int c : Edges.outside(11)) {
            EDGES.refused(1, "tag of " + c, h -> h.tag(c));
        }
        for (int c = Edges.NOTHING; c < Edges.CARD; c++) {
            int column = c;
            EDGES.refused(5, "tag of column " + c, h -> h.tag(column));
        }
        noCardAmongCards("tag", ColumnHouse::tag);
    }

    /** Every column holds a card, but for this one, which holds a row of a kind, or NOTHING (-1). */
    private static ColumnHouse cardsButIn(int column, int kind) {
        ColumnHouse house = new ColumnHouse();
        for (int c = 0; c < 12; c++) {
            if (c != column) {
                house.make(c, 12 + c % 3, 7 + c);
            }
        }
        if (kind >= 0) {
            house.make(column, kind, 2);
        }
        return house;
    }

    /** What the other columns hold is not asked for. */
    private static void noCardAmongCards(String name, Fixture.ColumnCall call) {
        for (int c = 0; c < 12; c++) {
            for (int kind = -1; kind <= 11; kind++) {
                ColumnHouse house = cardsButIn(c, kind);
                EDGES.due.point(name + " of column " + c + " among cards", call.of(house, c), 0.0);
                EDGES.due.is("why", house.why(), 5);
            }
        }
    }

    private static void loadOfCardsAndPasses() {
        EDGES.due.sentence("LOAD: of a CARD and a PASS the TAG");
        for (int kind = 12; kind <= 13; kind++) {
            for (int tag : new int[] {0, 1, -1, MOST, LEAST, 1 << 30}) {
                ColumnHouse house = new ColumnHouse();
                house.make(0, kind, tag);
                EDGES.done("load of " + kind, house, tag, h -> h.load(0));
            }
        }
    }

    private static void loadOfBadges() {
        EDGES.due.sentence("LOAD (ints that wrap): of a BADGE twice that, and 1 more");
        int[] tags = {0, 1, -1, (1 << 30) - 1, 1 << 30, -(1 << 30), -(1 << 30) - 1, MOST, LEAST};
        int[] loads = {1, 3, -1, MOST, LEAST + 1, LEAST + 1, MOST, -1, 1};
        for (int k = 0; k < tags.length; k++) {
            ColumnHouse house = new ColumnHouse();
            house.make(0, 14, tags[k]);
            EDGES.done("load of BADGE " + tags[k], house, loads[k], h -> h.load(0));
        }
    }

    private static void loadRefused() {
        EDGES.due.sentence("load: Reasons: 1; 5: it holds no card");
        for (int c : Edges.outside(11)) {
            EDGES.refused(1, "load of " + c, h -> h.load(c));
        }
        for (int c = Edges.NOTHING; c < Edges.CARD; c++) {
            int column = c;
            EDGES.refused(5, "load of column " + c, h -> h.load(column));
        }
        noCardAmongCards("load", ColumnHouse::load);
    }

    private static void whyItself() {
        EDGES.due.sentence("Promise 25: why(): WHY.");
        ColumnHouse house = Edges.house();
        house.kind(-1);
        for (int k = 0; k < 3; k++) {
            EDGES.due.is("why", house.why(), 1);
        }
        EDGES.due.is("kind", house.kind(Edges.INTS), 4);
        for (int k = 0; k < 3; k++) {
            EDGES.due.is("why", house.why(), 0);
        }
    }
}
