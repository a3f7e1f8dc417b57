import java.util.List;

/** Each call that names columns, so that what the document says of every call is asked of every one. */
final class Calls {
    interface Call {
        double of(ColumnHouse house, int[] columns);
    }

    /** Columns of Edges.house() with which the call is done. */
    final int[] columns;
    final String name;
    final Call call;
    /** For each column: 'r' if the call wants a row in it. */
    private final String wants;

    private Calls(String name, String wants, int[] columns, Call call) {
        this.name = name;
        this.wants = wants;
        this.columns = columns;
        this.call = call;
    }

    private static Calls one(String name, String wants, int c, Call call) {
        return new Calls(name, wants, new int[] {c}, call);
    }

    private static Calls two(String name, String wants, int c, int d, Call call) {
        return new Calls(name, wants, new int[] {c, d}, call);
    }

    private static Calls three(String name, int c, int d, int e, Call call) {
        return new Calls(name, "rrr", new int[] {c, d, e}, call);
    }

    static final List<Calls> ALL = List.of(
            one("make", "-", Edges.INTS, (h, c) -> h.make(c[0], 4, 3)),
            two("lay", "--", Edges.INTS, Edges.CARD, (h, c) -> h.lay(c[0], c[1])),
            one("places", "r", Edges.INTS, (h, c) -> h.places(c[0])),
            one("kind", "-", Edges.INTS, (h, c) -> h.kind(c[0])),
            one("tag", "-", Edges.CARD, (h, c) -> h.tag(c[0])),
            one("load", "-", Edges.CARD, (h, c) -> h.load(c[0])),
            one("put", "r", Edges.INTS, (h, c) -> h.put(c[0], 0, 4, 0, 6)),
            one("putBoxed", "r", Edges.INTS, (h, c) -> h.putBoxed(c[0], 0, 4, 0, 6)),
            two("putThing", "r-", Edges.CARDS, Edges.CARD, (h, c) -> h.putThing(c[0], 0, c[1])),
            one("number", "r", Edges.INTS, (h, c) -> h.number(c[0], 1, 4)),
            one("point", "r", Edges.DOUBLES, (h, c) -> h.point(c[0], 1, 7)),
            one("what", "r", Edges.INTS, (h, c) -> h.what(c[0], 0)),
            two("take", "r-", Edges.CARDS, Edges.CARD, (h, c) -> h.take(c[0], 0, c[1])),
            two("copy", "rr", Edges.INTS, Edges.LONGS, (h, c) -> h.copy(c[0], c[1])),
            three("gather", Edges.INTS, Edges.BYTES, Edges.LONGS, (h, c) -> h.gather(c[0], c[1], c[2])),
            three("scatter", Edges.INTS, Edges.BYTES, Edges.LONGS, (h, c) -> h.scatter(c[0], c[1], c[2])),
            three("merge", Edges.INTS, Edges.LONGS, Edges.DOUBLES, (h, c) -> h.merge(c[0], c[1], c[2])),
            one("sort", "r", Edges.INTS, (h, c) -> h.sort(c[0])),
            one("turn", "r", Edges.INTS, (h, c) -> h.turn(c[0], 1)),
            one("sum", "r", Edges.INTS, (h, c) -> h.sum(c[0])),
            one("total", "r", Edges.INTS, (h, c) -> h.total(c[0])),
            one("find", "r", Edges.INTS, (h, c) -> h.find(c[0], 0, 4, -1, -3)),
            two("alike", "rr", Edges.INTS, Edges.INTS, (h, c) -> h.alike(c[0], c[1])));

    int count() {
        return wants.length();
    }

    boolean wantsRow(int which) {
        return wants.charAt(which) == 'r';
    }

    double run(ColumnHouse house, int[] chosen) {
        return call.of(house, chosen);
    }

    /** The usual columns, but for one of them. */
    int[] with(int which, int column) {
        int[] chosen = columns.clone();
        chosen[which] = column;
        return chosen;
    }

    /** One column as told, and in each other from which a row is wanted the same column of another use. */
    int[] withOthers(int which, int column, int others) {
        int[] chosen = columns.clone();
        for (int k = 0; k < count(); k++) {
            if (wantsRow(k)) {
                chosen[k] = others;
            }
        }
        chosen[which] = column;
        return chosen;
    }
}
