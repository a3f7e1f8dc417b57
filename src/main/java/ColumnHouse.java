/**
 * Twelve columns that hold rows of values, rows of things, and cards.
 * Whole-column calls read all that they need into a stage before they write,
 * so that a refused call changes nothing and a row may be its own source.
 */
public final class ColumnHouse {
    private static final int COLUMNS = 12;
    private static final int MOST_PLACES = 24;

    // Sorts of values; a plain row's kind is the number of its sort.
    private static final int FLAG = 0;
    private static final int BYTE = 1;
    private static final int CHAR = 2;
    private static final int SHORT = 3;
    private static final int INT = 4;
    private static final int LONG = 5;
    private static final int FLOAT = 6;
    private static final int DOUBLE = 7;

    // The other kinds of things.
    private static final int CARDS = 8;
    private static final int BADGES = 9;
    private static final int SHEETS = 10;
    private static final int DECKS = 11;
    private static final int CARD = 12;
    private static final int BADGE = 14;

    private static final int NO_SORT = -1;
    private static final int NO_KIND = -1;

    // The reasons of WHY.
    private static final int DONE = 0;
    private static final int WRONG_NUMBER = 1;
    private static final int NOTHING_THERE = 2;
    private static final int NO_ROW = 3;
    private static final int WRONG_PLACE = 4;
    private static final int WRONG_VALUE = 5;
    private static final int WRONG_KIND = 6;

    private final Thing[] columns;
    private final Cell[] stage;
    private final int[] targets;
    private final Cell one;
    private final Cell other;
    private int why;

    public ColumnHouse() {
        columns = new Thing[COLUMNS];
        stage = new Cell[MOST_PLACES];
        for (int k = 0; k < MOST_PLACES; k++) {
            stage[k] = new Cell();
        }
        targets = new int[MOST_PLACES];
        one = new Cell();
        other = new Cell();
        why = DONE;
    }

    public int make(int c, int k, int n) {
        if (!isColumn(c) || k < FLAG || k > BADGE) {
            return refuse(WRONG_NUMBER);
        }
        if (k >= CARD) {
            columns[c] = new Card(k, n);
            return done(1);
        }
        if (n < 0 || n > MOST_PLACES) {
            return refuse(WRONG_NUMBER);
        }
        columns[c] = newRow(k, n);
        return done(1);
    }

    public int lay(int c, int d) {
        if (!isColumn(c) || !isColumn(d)) {
            return refuse(WRONG_NUMBER);
        }
        columns[d] = columns[c];
        return done(oneIfThing(columns[d]));
    }

    public int places(int c) {
        Row row = rowIn(c);
        if (row == null) {
            return refuse(rowAmiss(c));
        }
        return done(row.length());
    }

    public int kind(int c) {
        if (!isColumn(c)) {
            return refuse(WRONG_NUMBER);
        }
        return done(kindOf(columns[c]));
    }

    public int tag(int c) {
        Card card = cardIn(c);
        if (card == null) {
            return refuse(cardAmiss(c));
        }
        return done(card.tag);
    }

    public int load(int c) {
        Card card = cardIn(c);
        if (card == null) {
            return refuse(cardAmiss(c));
        }
        return done(card.kind == BADGE ? 2 * card.tag + 1 : card.tag);
    }

    public int put(int c, int i, int sort, int a, int b) {
        return putTold(c, i, sort, a, b);
    }

    public int putBoxed(int c, int i, int sort, int a, int b) {
        return putTold(c, i, sort, a, b);
    }

    public int putThing(int c, int i, int d) {
        if (!isColumn(d)) {
            return refuse(WRONG_NUMBER);
        }
        Row row = rowIn(c);
        if (row == null) {
            return refuse(rowAmiss(c));
        }
        one.holdThing(columns[d]);
        return placeOne(row, i, oneIfThing(columns[d]));
    }

    public long number(int c, int i, int sort) {
        if (sort < FLAG || sort > LONG) {
            return refuse(WRONG_NUMBER);
        }
        return readOneAs(c, i, sort) ? one.whole : 0L;
    }

    public double point(int c, int i, int sort) {
        if (sort != FLOAT && sort != DOUBLE) {
            return refuse(WRONG_NUMBER);
        }
        return readOneAs(c, i, sort) ? one.pointAs(sort) : 0.0;
    }

    public int what(int c, int i) {
        Row row = rowIn(c);
        if (row == null) {
            return refuse(rowAmiss(c));
        }
        if (!row.has(i)) {
            return refuse(WRONG_PLACE);
        }
        row.read(i, one);
        return done(one.isValue() ? one.sort : kindOf(one.thing));
    }

    public int take(int c, int i, int d) {
        if (!isColumn(d)) {
            return refuse(WRONG_NUMBER);
        }
        Row row = rowIn(c);
        if (row == null) {
            return refuse(rowAmiss(c));
        }
        if (row.isPlain()) {
            return refuse(WRONG_KIND);
        }
        if (!row.has(i)) {
            return refuse(WRONG_PLACE);
        }
        row.read(i, one);
        columns[d] = one.thing;
        return done(oneIfThing(one.thing));
    }

    public int copy(int c, int d) {
        Row from = rowIn(c);
        Row to = rowIn(d);
        if (from == null || to == null) {
            return refuse(earlier(rowAmiss(c), rowAmiss(d)));
        }
        if (from.length() != to.length()) {
            return refuse(WRONG_PLACE);
        }
        for (int k = 0; k < from.length(); k++) {
            from.read(k, stage[k]);
            if (!to.takes(stage[k])) {
                return refuse(WRONG_VALUE);
            }
        }
        return done(writeStage(to));
    }

    public int gather(int c, int x, int d) {
        return moveByIndex(c, x, d, true);
    }

    public int scatter(int c, int x, int d) {
        return moveByIndex(c, x, d, false);
    }

    public int merge(int c, int d, int e) {
        Row left = rowIn(c);
        Row right = rowIn(d);
        Row into = rowIn(e);
        if (left == null || right == null || into == null) {
            return refuse(rowsAmiss(c, d, e));
        }
        if (!left.isPlain() || !right.isPlain() || !into.isPlain()) {
            return refuse(WRONG_KIND);
        }
        if ((left.kind == FLAG) != (right.kind == FLAG)) {
            return refuse(WRONG_KIND);
        }
        if (into.length() != left.length() + right.length()) {
            return refuse(WRONG_PLACE);
        }
        int usedOfLeft = 0;
        for (int k = 0; k < into.length(); k++) {
            int usedOfRight = k - usedOfLeft;
            if (comesFromRight(left, usedOfLeft, right, usedOfRight)) {
                right.read(usedOfRight, stage[k]);
            } else {
                left.read(usedOfLeft, stage[k]);
                usedOfLeft++;
            }
            if (!into.takes(stage[k])) {
                return refuse(WRONG_VALUE);
            }
        }
        return done(writeStage(into));
    }

    public int sort(int c) {
        Row row = rowIn(c);
        if (row == null) {
            return refuse(rowAmiss(c));
        }
        for (int k = 0; k < row.length(); k++) {
            row.read(k, stage[k]);
            sinkIntoOrder(k);
        }
        int changed = placesUnlikeStage(row);
        writeStage(row);
        return done(changed);
    }

    public int turn(int c, int n) {
        Row row = rowIn(c);
        if (row == null) {
            return refuse(rowAmiss(c));
        }
        int length = row.length();
        if (length == 0) {
            return done(0);
        }
        int shift = Math.floorMod(n, length);
        for (int k = 0; k < length; k++) {
            int target = k + shift;
            row.read(k, stage[target < length ? target : target - length]);
        }
        return done(writeStage(row));
    }

    public long sum(int c) {
        Row row = rowIn(c);
        if (row == null) {
            return refuse(rowAmiss(c));
        }
        if (row.kind < BYTE || row.kind > LONG) {
            return refuse(WRONG_KIND);
        }
        long sum = 0;
        for (int k = 0; k < row.length(); k++) {
            row.read(k, one);
            sum += one.whole;
        }
        why = DONE;
        return sum;
    }

    public double total(int c) {
        Row row = rowIn(c);
        if (row == null) {
            return refuse(rowAmiss(c));
        }
        if (!row.isPlain() || row.kind == FLAG) {
            return refuse(WRONG_KIND);
        }
        double total = 0;
        for (int k = 0; k < row.length(); k++) {
            row.read(k, one);
            total += one.pointAs(DOUBLE);
        }
        why = DONE;
        return total;
    }

    public int find(int c, int i, int sort, int a, int b) {
        if (!isSort(sort)) {
            return refuse(WRONG_NUMBER);
        }
        Row row = rowIn(c);
        if (row == null) {
            return refuse(rowAmiss(c));
        }
        if (!row.isPlain()) {
            return refuse(WRONG_KIND);
        }
        one.holdTold(sort, a, b);
        for (int k = Math.max(i, 0); k < row.length(); k++) {
            row.read(k, other);
            if (other.isLike(one)) {
                return done(k);
            }
        }
        return done(-1);
    }

    public int alike(int c, int d) {
        Row left = rowIn(c);
        Row right = rowIn(d);
        if (left == null || right == null) {
            return refuse(earlier(rowAmiss(c), rowAmiss(d)));
        }
        if (left.length() != right.length()) {
            return done(0);
        }
        for (int k = 0; k < left.length(); k++) {
            left.read(k, one);
            right.read(k, other);
            if (!one.isLike(other)) {
                return done(0);
            }
        }
        return done(1);
    }

    public int why() {
        return why;
    }

    private int done(int answer) {
        why = DONE;
        return answer;
    }

    private int refuse(int reason) {
        why = reason;
        return 0;
    }

    private static boolean isColumn(int c) {
        return c >= 0 && c < COLUMNS;
    }

    private static boolean isSort(int sort) {
        return sort >= FLAG && sort <= DOUBLE;
    }

    private static int kindOf(Thing thing) {
        return thing == null ? NO_KIND : thing.kind;
    }

    private static int oneIfThing(Thing thing) {
        return thing == null ? 0 : 1;
    }

    private static Row newRow(int kind, int length) {
        if (kind <= LONG) {
            return new WholeRow(kind, length);
        }
        if (kind <= DOUBLE) {
            return new PointRow(kind, length);
        }
        return new ThingRow(kind, length);
    }

    /** The row in column c, or null where rowAmiss has a reason. */
    private Row rowIn(int c) {
        if (isColumn(c) && columns[c] instanceof Row row) {
            return row;
        }
        return null;
    }

    private int rowAmiss(int c) {
        if (!isColumn(c)) {
            return WRONG_NUMBER;
        }
        if (columns[c] == null) {
            return NOTHING_THERE;
        }
        return columns[c] instanceof Row ? DONE : NO_ROW;
    }

    private int rowsAmiss(int c, int d, int e) {
        return earlier(rowAmiss(c), earlier(rowAmiss(d), rowAmiss(e)));
    }

    /** Every call tells rowAmiss's reasons in the order of their numbers, over all its columns. */
    private static int earlier(int reason, int another) {
        if (reason == DONE) {
            return another;
        }
        return another == DONE ? reason : Math.min(reason, another);
    }

    /** The card in column c, or null where there is none. */
    private Card cardIn(int c) {
        if (isColumn(c) && columns[c] instanceof Card card) {
            return card;
        }
        return null;
    }

    /** Why there is no card in column c: NOTHING and a row are one reason here. */
    private static int cardAmiss(int c) {
        return isColumn(c) ? WRONG_VALUE : WRONG_NUMBER;
    }

    private int putTold(int c, int i, int sort, int a, int b) {
        if (!isSort(sort)) {
            return refuse(WRONG_NUMBER);
        }
        Row row = rowIn(c);
        if (row == null) {
            return refuse(rowAmiss(c));
        }
        one.holdTold(sort, a, b);
        return placeOne(row, i, 1);
    }

    private int placeOne(Row row, int i, int answer) {
        if (!row.has(i)) {
            return refuse(WRONG_PLACE);
        }
        if (!row.takes(one)) {
            return refuse(WRONG_VALUE);
        }
        row.write(i, one);
        return done(answer);
    }

    /** Whether the cell "one" now has place i's value, which goes into the sort; sets WHY. */
    private boolean readOneAs(int c, int i, int sort) {
        Row row = rowIn(c);
        if (row == null) {
            why = rowAmiss(c);
            return false;
        }
        if (!row.has(i)) {
            why = WRONG_PLACE;
            return false;
        }
        if (!row.goesAs(sort)) {
            why = WRONG_VALUE;
            return false;
        }
        row.read(i, one);
        why = DONE;
        return true;
    }

    /** gather and scatter: column x tells the places that are read, or those that are written. */
    private int moveByIndex(int c, int x, int d, boolean reads) {
        Row from = rowIn(c);
        Row index = rowIn(x);
        Row to = rowIn(d);
        if (from == null || index == null || to == null) {
            return refuse(rowsAmiss(c, x, d));
        }
        if (!index.goesAs(INT)) {
            return refuse(WRONG_KIND);
        }
        int count = index.length();
        if (count != (reads ? to.length() : from.length())) {
            return refuse(WRONG_PLACE);
        }
        for (int k = 0; k < count; k++) {
            int place = indexAt(index, k);
            targets[k] = reads ? k : place;
            int reason = stageMove(from, reads ? place : k, to, k);
            if (reason != DONE) {
                return refuse(reason);
            }
        }
        for (int k = 0; k < count; k++) {
            to.write(targets[k], stage[k]);
        }
        return done(count);
    }

    /** The k-th move: stages what the source place has for the k-th target; answers what is amiss. */
    private int stageMove(Row from, int source, Row to, int k) {
        if (!from.has(source) || !to.has(targets[k])) {
            return WRONG_PLACE;
        }
        from.read(source, stage[k]);
        return to.takes(stage[k]) ? DONE : WRONG_VALUE;
    }

    private int indexAt(Row index, int k) {
        index.read(k, one);
        return (int) one.whole;
    }

    private int writeStage(Row to) {
        int length = to.length();
        for (int k = 0; k < length; k++) {
            to.write(k, stage[k]);
        }
        return length;
    }

    private boolean comesFromRight(Row left, int i, Row right, int j) {
        if (!left.has(i)) {
            return true;
        }
        if (!right.has(j)) {
            return false;
        }
        left.read(i, one);
        right.read(j, other);
        return other.isLess(one);
    }

    /** Moves the cell at last down the stage, whose earlier cells are in order, past none that is like it. */
    private void sinkIntoOrder(int last) {
        Cell cell = stage[last];
        int at = last;
        while (at > 0 && cell.comesBefore(stage[at - 1])) {
            stage[at] = stage[at - 1];
            at--;
        }
        stage[at] = cell;
    }

    private int placesUnlikeStage(Row row) {
        int count = 0;
        for (int k = 0; k < row.length(); k++) {
            row.read(k, one);
            // LIKE is as fine as "has what it had" within one row: it is blind only
            // to the sign of 0, and no value that can be told is -0.
            if (!one.isLike(stage[k])) {
                count++;
            }
        }
        return count;
    }

    private static boolean goesInto(int sort, int wanted) {
        if (sort == wanted) {
            return true;
        }
        // FLAGS stand apart; a CHAR has no sign and a BYTE or SHORT has, so neither holds the other.
        if (sort == FLAG || wanted == CHAR || sort == CHAR && wanted == SHORT) {
            return false;
        }
        return sort < wanted;
    }

    private static boolean fits(int thingKind, int rowKind) {
        switch (rowKind) {
            case CARDS:
                return thingKind >= CARD;
            case BADGES:
                return thingKind == BADGE;
            case SHEETS:
                return thingKind == INT;
            case DECKS:
                return thingKind == CARDS || thingKind == BADGES;
            default:
                return false;
        }
    }

    private abstract static class Thing {
        final int kind;

        Thing(int kind) {
            this.kind = kind;
        }

        /** By which things of one row are put in order. */
        abstract int measure();
    }

    private static final class Card extends Thing {
        final int tag;

        Card(int kind, int tag) {
            super(kind);
            this.tag = tag;
        }

        @Override
        int measure() {
            return tag;
        }
    }

    private abstract static class Row extends Thing {
        Row(int kind) {
            super(kind);
        }

        abstract int length();

        /** Place i must be one that the row has. */
        abstract void read(int i, Cell into);

        /** Place i must be one that the row has, and the cell one that it takes. */
        abstract void write(int i, Cell from);

        @Override
        int measure() {
            return length();
        }

        boolean has(int i) {
            return i >= 0 && i < length();
        }

        boolean isPlain() {
            return kind <= DOUBLE;
        }

        boolean goesAs(int sort) {
            return isPlain() && goesInto(kind, sort);
        }

        boolean takes(Cell cell) {
            if (cell.isValue()) {
                return isPlain() && goesInto(cell.sort, kind);
            }
            return !isPlain() && (cell.thing == null || fits(cell.thing.kind, kind));
        }
    }

    /** A plain row of the sorts FLAG to LONG. */
    private static final class WholeRow extends Row {
        private final long[] wholes;

        WholeRow(int kind, int length) {
            super(kind);
            wholes = new long[length];
        }

        @Override
        int length() {
            return wholes.length;
        }

        @Override
        void read(int i, Cell into) {
            into.holdWhole(kind, wholes[i]);
        }

        @Override
        void write(int i, Cell from) {
            wholes[i] = from.whole;
        }
    }

    /** A plain row of the sorts FLOAT and DOUBLE; each FLOAT is a DOUBLE too. */
    private static final class PointRow extends Row {
        private final double[] points;

        PointRow(int kind, int length) {
            super(kind);
            points = new double[length];
        }

        @Override
        int length() {
            return points.length;
        }

        @Override
        void read(int i, Cell into) {
            into.holdPoint(kind, points[i]);
        }

        @Override
        void write(int i, Cell from) {
            points[i] = from.pointAs(kind);
        }
    }

    private static final class ThingRow extends Row {
        private final Thing[] things;

        ThingRow(int kind, int length) {
            super(kind);
            things = new Thing[length];
        }

        @Override
        int length() {
            return things.length;
        }

        @Override
        void read(int i, Cell into) {
            into.holdThing(things[i]);
        }

        @Override
        void write(int i, Cell from) {
            things[i] = from.thing;
        }
    }

    /** What one place has: a value of a sort, or a thing or NOTHING. */
    private static final class Cell {
        int sort = NO_SORT;
        long whole;
        double point;
        Thing thing;

        void holdWhole(int sort, long whole) {
            this.sort = sort;
            this.whole = whole;
        }

        void holdPoint(int sort, double point) {
            this.sort = sort;
            this.point = point;
        }

        void holdThing(Thing thing) {
            this.sort = NO_SORT;
            this.thing = thing;
        }

        void holdTold(int sort, int a, int b) {
            long v = ((long) a << 32) | (b & 0xFFFFFFFFL);
            switch (sort) {
                case FLAG:
                    holdWhole(sort, v & 1);
                    break;
                case BYTE:
                    holdWhole(sort, (byte) v);
                    break;
                case CHAR:
                    holdWhole(sort, (char) v);
                    break;
                case SHORT:
                    holdWhole(sort, (short) v);
                    break;
                case INT:
                    holdWhole(sort, (int) v);
                    break;
                case FLOAT:
                    holdPoint(sort, (float) v / 8.0f);
                    break;
                case DOUBLE:
                    holdPoint(sort, (double) v / 8.0);
                    break;
                default:
                    holdWhole(sort, v);
                    break;
            }
        }

        boolean isValue() {
            return sort != NO_SORT;
        }

        boolean isWhole() {
            return sort >= FLAG && sort <= LONG;
        }

        /** The FLOAT or DOUBLE that the value becomes. */
        double pointAs(int wanted) {
            if (!isWhole()) {
                return point;
            }
            // A LONG is rounded once: by way of a DOUBLE the FLOAT may be a neighbour.
            return wanted == FLOAT ? (float) whole : (double) whole;
        }

        /** Whether both have LIKE values, the same thing, or NOTHING. */
        boolean isLike(Cell cell) {
            if (!isValue() || !cell.isValue()) {
                return isValue() == cell.isValue() && thing == cell.thing;
            }
            if ((sort == FLAG) != (cell.sort == FLAG)) {
                return false;
            }
            if (isWhole() && cell.isWhole()) {
                return whole == cell.whole;
            }
            return pointAs(DOUBLE) == cell.pointAs(DOUBLE);
        }

        /** Asked of values alone, both of them FLAGS or neither. */
        boolean isLess(Cell cell) {
            if (isWhole() && cell.isWhole()) {
                return whole < cell.whole;
            }
            return pointAs(DOUBLE) < cell.pointAs(DOUBLE);
        }

        /** The order of places of one row. */
        boolean comesBefore(Cell cell) {
            if (isValue()) {
                return isLess(cell);
            }
            if (thing == null || cell.thing == null) {
                return thing == null && cell.thing != null;
            }
            return thing.measure() < cell.thing.measure();
        }
    }
}
