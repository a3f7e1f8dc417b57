import java.lang.reflect.Array;
import java.util.ArrayList;
import java.util.Collections;
import java.util.List;

/**
 * The document, told a second time over Java's own arrays: which sort goes into which, and what fits,
 * is what java.lang.reflect.Array.set lets into an array.
 */
final class ArrayModel {
    static class Card {
        final int tag;

        Card(int tag) {
            this.tag = tag;
        }
    }

    static final class Pass extends Card {
        Pass(int tag) {
            super(tag);
        }
    }

    static final class Badge extends Card {
        Badge(int tag) {
            super(tag);
        }
    }

    /** A refusal, with its reason. */
    private static final class Refused extends RuntimeException {
        private static final long serialVersionUID = 1L;
        final int reason;

        Refused(int reason) {
            super(null, null, false, false);
            this.reason = reason;
        }
    }

    private static final List<Class<?>> ROWS = List.of(boolean[].class, byte[].class, char[].class, short[].class,
            int[].class, long[].class, float[].class, double[].class, Card[].class, Badge[].class, int[][].class,
            Card[][].class);
    private static final List<Class<?>> BOXES = List.of(Boolean.class, Byte.class, Character.class, Short.class,
            Integer.class, Long.class, Float.class, Double.class);

    private final Object[] columns = new Object[12];
    private int why;

    /** The call by its number, as CALLS of ModelTest names them; the answer as an Integer, Long or Double. */
    Number call(int which, int[] p) {
        if (which == 23) {
            return why;
        }
        try {
            Number answer = answer(which, p);
            why = 0;
            return answer;
        } catch (Refused refused) {
            why = refused.reason;
            return which == 9 || which == 19 ? (Number) 0L : which == 10 || which == 20 ? (Number) 0.0 : 0;
        }
    }

    private Number answer(int which, int[] p) {
        switch (which) {
            case 0: return make(p[0], p[1], p[2]);
            case 1: return lay(p[0], p[1]);
            case 2: return Array.getLength(rows(p[0])[0]);
            case 3: return kindOf(held(p[0]));
            case 4: return card(p[0]).tag;
            case 5: return card(p[0]) instanceof Badge badge ? badge.tag + badge.tag + 1 : card(p[0]).tag;
            case 6:
            case 7: return put(p[0], p[1], p[2], p[3], p[4]);
            case 8: return putThing(p[0], p[1], p[2]);
            case 9: return number(p[0], p[1], p[2]);
            case 10: return point(p[0], p[1], p[2]);
            case 11: return what(p[0], p[1]);
            case 12: return take(p[0], p[1], p[2]);
            case 13: return copy(p[0], p[1]);
            case 14: return gather(p[0], p[1], p[2]);
            case 15: return scatter(p[0], p[1], p[2]);
            case 16: return merge(p[0], p[1], p[2]);
            case 17: return sort(p[0]);
            case 18: return turn(p[0], p[1]);
            case 19: return sum(p[0]);
            case 20: return total(p[0]);
            case 21: return find(p[0], p[1], p[2], p[3], p[4]);
            default: return alike(p[0], p[1]);
        }
    }

    Object inColumn(int c) {
        return columns[c];
    }

    private static void need(boolean right, int reason) {
        if (!right) {
            throw new Refused(reason);
        }
    }

    private Object held(int c) {
        need(c >= 0 && c <= 11, 1);
        return columns[c];
    }

    /** The rows in some columns: of all of them 1 counts first, then 2, then 3. */
    private Object[] rows(int... which) {
        Object[] rows = new Object[which.length];
        for (int k = 0; k < which.length; k++) {
            rows[k] = held(which[k]);
        }
        for (Object row : rows) {
            need(row != null, 2);
        }
        for (Object row : rows) {
            need(row.getClass().isArray(), 3);
        }
        return rows;
    }

    private static void place(Object row, int i) {
        need(i >= 0 && i < Array.getLength(row), 4);
    }

    private static boolean plain(Object row) {
        return row.getClass().getComponentType().isPrimitive();
    }

    static int kindOf(Object thing) {
        if (thing == null) {
            return -1;
        }
        if (thing instanceof Card) {
            return thing instanceof Pass ? 13 : thing instanceof Badge ? 14 : 12;
        }
        return ROWS.indexOf(thing.getClass());
    }

    private Card card(int c) {
        Object thing = held(c);
        need(thing instanceof Card, 5);
        return (Card) thing;
    }

    /** What the place gets is looked at by Java itself. */
    private static void set(Object row, int i, Object what) {
        need(what != null || !plain(row), 5);
        try {
            Array.set(row, i, what);
        } catch (IllegalArgumentException doesNotGo) {
            throw new Refused(5);
        }
    }

    private static Object twin(Object row) {
        int length = Array.getLength(row);
        Object twin = Array.newInstance(row.getClass().getComponentType(), length);
        System.arraycopy(row, 0, twin, 0, length);
        return twin;
    }

    private static int pour(Object from, Object into) {
        System.arraycopy(from, 0, into, 0, Array.getLength(into));
        return Array.getLength(into);
    }

    private static Object told(int sort, int a, int b) {
        long v = a * 4294967296L + Integer.toUnsignedLong(b);
        switch (sort) {
            case 0: return Math.floorMod(v, 2L) == 1;
            case 1: return (byte) v;
            case 2: return (char) v;
            case 3: return (short) v;
            case 4: return (int) v;
            case 5: return v;
            case 6: return Float.parseFloat(Long.toString(v)) / 8;
            default: return Double.parseDouble(Long.toString(v)) / 8;
        }
    }

    private static boolean rounded(Object value) {
        return value instanceof Float || value instanceof Double;
    }

    private static double asDouble(Object value) {
        return value instanceof Character sign ? sign : ((Number) value).doubleValue();
    }

    private static long asLong(Object value) {
        return value instanceof Character sign ? sign : ((Number) value).longValue();
    }

    /** Below 0, 0 or above; only of values that can be compared. */
    private static int order(Object left, Object right) {
        if (left instanceof Boolean flag) {
            return flag.compareTo((Boolean) right);
        }
        if (rounded(left) || rounded(right)) {
            double one = asDouble(left);
            double other = asDouble(right);
            return one < other ? -1 : one > other ? 1 : 0;
        }
        return Long.compare(asLong(left), asLong(right));
    }

    private static boolean value(Object what) {
        return what != null && BOXES.contains(what.getClass());
    }

    private static boolean like(Object left, Object right) {
        if (!value(left) || !value(right)) {
            return left == right;
        }
        return left instanceof Boolean == right instanceof Boolean && order(left, right) == 0;
    }

    private int make(int c, int k, int n) {
        held(c);
        need(k >= 0 && k <= 14, 1);
        need(k > 11 || n >= 0 && n <= 24, 1);
        columns[c] = k == 12 ? new Card(n) : k == 13 ? new Pass(n) : k == 14 ? new Badge(n)
                : Array.newInstance(ROWS.get(k).getComponentType(), n);
        return 1;
    }

    private int lay(int c, int d) {
        held(d);
        columns[d] = held(c);
        return columns[d] == null ? 0 : 1;
    }

    private int put(int c, int i, int sort, int a, int b) {
        need(sort >= 0 && sort <= 7, 1);
        Object row = rows(c)[0];
        place(row, i);
        set(row, i, told(sort, a, b));
        return 1;
    }

    private int putThing(int c, int i, int d) {
        held(c);
        Object thing = held(d);
        Object row = rows(c)[0];
        place(row, i);
        set(row, i, thing);
        return thing == null ? 0 : 1;
    }

    /** The value at a place, in a row of one place that is of the wanted sort. */
    private Object valueAs(int c, int i, int sort) {
        Object row = rows(c)[0];
        place(row, i);
        need(plain(row), 5);
        Object single = Array.newInstance(ROWS.get(sort).getComponentType(), 1);
        set(single, 0, Array.get(row, i));
        return Array.get(single, 0);
    }

    private long number(int c, int i, int sort) {
        need(sort >= 0 && sort <= 5, 1);
        Object value = valueAs(c, i, sort);
        return value instanceof Boolean flag ? (flag ? 1 : 0) : asLong(value);
    }

    private double point(int c, int i, int sort) {
        need(sort == 6 || sort == 7, 1);
        return asDouble(valueAs(c, i, sort));
    }

    private int what(int c, int i) {
        Object row = rows(c)[0];
        place(row, i);
        Object there = Array.get(row, i);
        return value(there) ? BOXES.indexOf(there.getClass()) : kindOf(there);
    }

    private int take(int c, int i, int d) {
        held(d);
        Object row = rows(c)[0];
        need(!plain(row), 6);
        place(row, i);
        columns[d] = Array.get(row, i);
        return columns[d] == null ? 0 : 1;
    }

    private int copy(int c, int d) {
        Object[] rows = rows(c, d);
        need(Array.getLength(rows[0]) == Array.getLength(rows[1]), 4);
        Object twin = twin(rows[1]);
        for (int k = 0; k < Array.getLength(twin); k++) {
            set(twin, k, Array.get(rows[0], k));
        }
        return pour(twin, rows[1]);
    }

    private static int[] indices(Object row) {
        int kind = kindOf(row);
        need(kind >= 1 && kind <= 4, 6);
        int[] places = new int[Array.getLength(row)];
        for (int k = 0; k < places.length; k++) {
            places[k] = Array.getInt(row, k);
        }
        return places;
    }

    private int gather(int c, int x, int d) {
        Object[] rows = rows(c, x, d);
        int[] places = indices(rows[1]);
        need(places.length == Array.getLength(rows[2]), 4);
        Object twin = twin(rows[2]);
        for (int k = 0; k < places.length; k++) {
            place(rows[0], places[k]);
            set(twin, k, Array.get(rows[0], places[k]));
        }
        return pour(twin, rows[2]);
    }

    private int scatter(int c, int x, int d) {
        Object[] rows = rows(c, x, d);
        int[] places = indices(rows[1]);
        need(places.length == Array.getLength(rows[0]), 4);
        Object twin = twin(rows[2]);
        for (int k = 0; k < places.length; k++) {
            place(twin, places[k]);
            set(twin, places[k], Array.get(rows[0], k));
        }
        pour(twin, rows[2]);
        return places.length;
    }

    private int merge(int c, int d, int e) {
        Object[] rows = rows(c, d, e);
        need(plain(rows[0]) && plain(rows[1]) && plain(rows[2]), 6);
        need(rows[0] instanceof boolean[] == rows[1] instanceof boolean[], 6);
        List<Object> left = contents(rows[0]);
        List<Object> right = contents(rows[1]);
        need(left.size() + right.size() == Array.getLength(rows[2]), 4);
        Object twin = twin(rows[2]);
        int at = 0;
        while (!left.isEmpty() && !right.isEmpty()) {
            set(twin, at++, (order(right.get(0), left.get(0)) < 0 ? right : left).remove(0));
        }
        left.addAll(right);
        for (Object rest : left) {
            set(twin, at++, rest);
        }
        return pour(twin, rows[2]);
    }

    static List<Object> contents(Object row) {
        List<Object> contents = new ArrayList<>();
        for (int k = 0; k < Array.getLength(row); k++) {
            contents.add(Array.get(row, k));
        }
        return contents;
    }

    private static int thingOrder(Object left, Object right) {
        if (value(left)) {
            return order(left, right);
        }
        if (left == null || right == null) {
            return Boolean.compare(left != null, right != null);
        }
        return Integer.compare(size(left), size(right));
    }

    private static int size(Object thing) {
        return thing instanceof Card card ? card.tag : Array.getLength(thing);
    }

    private int sort(int c) {
        Object row = rows(c)[0];
        List<Object> before = contents(row);
        List<Object> after = new ArrayList<>(before);
        after.sort(ArrayModel::thingOrder);
        int changed = 0;
        for (int k = 0; k < after.size(); k++) {
            Object was = before.get(k);
            changed += (value(was) ? was.equals(after.get(k)) : was == after.get(k)) ? 0 : 1;
            set(row, k, after.get(k));
        }
        return changed;
    }

    private int turn(int c, int n) {
        Object row = rows(c)[0];
        List<Object> contents = contents(row);
        Collections.rotate(contents, n);
        for (int k = 0; k < contents.size(); k++) {
            set(row, k, contents.get(k));
        }
        return contents.size();
    }

    private long sum(int c) {
        Object row = rows(c)[0];
        need(kindOf(row) >= 1 && kindOf(row) <= 5, 6);
        long sum = 0;
        for (Object value : contents(row)) {
            sum += asLong(value);
        }
        return sum;
    }

    private double total(int c) {
        Object row = rows(c)[0];
        need(kindOf(row) >= 1 && kindOf(row) <= 7, 6);
        double total = 0;
        for (Object value : contents(row)) {
            total += asDouble(value);
        }
        return total;
    }

    private int find(int c, int i, int sort, int a, int b) {
        need(sort >= 0 && sort <= 7, 1);
        Object row = rows(c)[0];
        need(plain(row), 6);
        List<Object> contents = contents(row);
        for (int k = 0; k < contents.size(); k++) {
            if (k >= i && like(contents.get(k), told(sort, a, b))) {
                return k;
            }
        }
        return -1;
    }

    private int alike(int c, int d) {
        Object[] rows = rows(c, d);
        List<Object> left = contents(rows[0]);
        List<Object> right = contents(rows[1]);
        boolean alike = left.size() == right.size();
        for (int k = 0; alike && k < left.size(); k++) {
            alike = like(left.get(k), right.get(k));
        }
        return alike ? 1 : 0;
    }
}
