import java.util.List;
import java.util.Random;

/** Runs of calls drawn by a fixed seed, each answered by the class and by the model over Java's arrays. */
public final class ModelTest {
    private static final int RUNS = 6000;
    private static final int DRAWN = 140;
    private static final int MOST_CALLS = 512;

    private static final String[] CALLS = {
        "make", "lay", "places", "kind", "tag", "load", "put", "putBoxed", "putThing", "number", "point", "what",
        "take", "copy", "gather", "scatter", "merge", "sort", "turn", "sum", "total", "find", "alike", "why"
    };
    /** What each parameter is: c column, k kind, n length or tag, i place, s sort, t turn, v the two ints of a value. */
    private static final String[] PARAMETERS = {
        "ckn", "cc", "c", "c", "c", "c", "cisv", "cisv", "cic", "cis", "cis", "ci",
        "cic", "cc", "ccc", "ccc", "ccc", "c", "ct", "c", "c", "cisv", "cc", ""
    };
    private static final int[] WEIGHTS = {
        5, 3, 1, 1, 2, 2, 25, 5, 20, 4, 4, 2, 4, 10, 12, 12, 12, 6, 4, 3, 3, 6, 6, 1
    };
    private static final long[] EDGES = {
        0, 1, 2, 3, -1, -2, 7, 8, 16, 127, 128, 255, 256, 32767, 32768, 65535, 65536, (1L << 24) + 1, (1L << 24) + 3,
        Integer.MAX_VALUE, Integer.MIN_VALUE, 1L << 32, (1L << 53) + 1, (1L << 53) + 3, (1L << 60) + (1L << 36) + 1,
        Long.MAX_VALUE, Long.MIN_VALUE
    };

    private final Random random;
    private final ColumnHouse house = new ColumnHouse();
    private final ArrayModel model = new ArrayModel();
    private final StringBuilder story = new StringBuilder();
    private int calls;
    private boolean wrong;
    /** In some runs most rows are plain, in others most are of things; of many the length is the same. */
    private final int leaning;
    private final int usualLength;

    private ModelTest(long seed) {
        random = new Random(seed);
        leaning = 1 + random.nextInt(7);
        usualLength = random.nextInt(5);
    }

    public static void main(String[] args) {
        Due due = new Due();
        int failed = 0;
        for (int run = 0; run < RUNS && failed < 3; run++) {
            ModelTest test = new ModelTest(run);
            test.play();
            due.is("the run of seed " + run, test.wrong ? 1 : 0, 0);
            if (test.wrong) {
                failed++;
                System.out.println(test.story);
            }
        }
        due.end();
    }

    private void play() {
        for (int c = 0; c < 12; c++) {
            if (random.nextInt(12) != 0) {
                compare(0, new int[] {c, drawKind(), drawLength(), 0, 0});
            }
        }
        for (int k = 0; k < DRAWN && !wrong; k++) {
            int which = drawCall();
            compare(which, drawPromising(which));
            if (random.nextInt(3) == 0) {
                lookAtRow(random.nextInt(12));
            }
        }
        for (int c = 0; c < 12 && !wrong; c++) {
            lookAtRow(c);
            lookAtThings(c);
        }
    }

    private int drawCall() {
        int all = 0;
        for (int weight : WEIGHTS) {
            all += weight;
        }
        int drawn = random.nextInt(all);
        int which = 0;
        while (drawn >= WEIGHTS[which]) {
            drawn -= WEIGHTS[which++];
        }
        return which;
    }

    /** Mostly parameters that the call is not sure to refuse: blind draws would hardly ever be done. */
    private int[] drawPromising(int which) {
        int[] drawn = drawParameters(PARAMETERS[which]);
        int tries = random.nextInt(5) == 0 ? 0 : 200;
        for (int k = 0; k < tries && !promising(which, drawn); k++) {
            drawn = drawParameters(PARAMETERS[which]);
        }
        return drawn;
    }

    private boolean promising(int which, int[] p) {
        int first = kindIn(p[0]);
        switch (CALLS[which]) {
            case "make": return true;
            case "tag":
            case "load": return first >= 12;
            case "put":
            case "putBoxed": return p[1] >= 0 && p[1] < lengthIn(p[0]) && p[2] <= first && first <= 7;
            case "putThing":
            case "take": return p[1] >= 0 && p[1] < lengthIn(p[0]) && first >= 8
                    && (which == 12 || kindIn(p[2]) == -1 || fits(first, kindIn(p[2])));
            case "number": return p[2] >= first;
            case "copy": return lengthIn(p[0]) == lengthIn(p[1]) && first <= 7 == kindIn(p[1]) <= 7;
            case "gather":
            case "scatter": return lengthIn(p[1]) == lengthIn(p[which == 14 ? 2 : 0])
                    && kindIn(p[1]) >= 1 && kindIn(p[1]) <= 4 && first <= 7 == kindIn(p[2]) <= 7;
            case "merge": return lengthIn(p[0]) + lengthIn(p[1]) == lengthIn(p[2])
                    && first <= 7 && kindIn(p[1]) <= 7 && kindIn(p[2]) <= 7;
            default: return lengthIn(p[0]) > 0;
        }
    }

    private static boolean fits(int row, int thing) {
        return row == 8 ? thing >= 12 : row == 9 ? thing == 14 : row == 10 ? thing == 4 : thing == 8 || thing == 9;
    }

    private int kindIn(int c) {
        return c < 0 || c > 11 ? -1 : ArrayModel.kindOf(model.inColumn(c));
    }

    private int lengthIn(int c) {
        int kind = kindIn(c);
        return kind < 0 || kind > 11 ? -100 : ArrayModel.contents(model.inColumn(c)).size();
    }

    private int drawKind() {
        int way = random.nextInt(8);
        return way < leaning ? random.nextInt(8) : way == 7 ? random.nextInt(15) : 8 + random.nextInt(7);
    }

    private int drawLength() {
        int way = random.nextInt(20);
        return way < 12 ? usualLength : way < 17 ? 2 * usualLength : way < 19 ? random.nextInt(6) : random.nextInt(27) - 1;
    }

    private int[] drawParameters(String shape) {
        int[] drawn = new int[5];
        int at = 0;
        for (char parameter : shape.toCharArray()) {
            if (parameter == 'v') {
                long v = drawValue();
                drawn[at++] = (int) (v >> 32);
                drawn[at++] = (int) v;
            } else {
                drawn[at++] = drawOne(parameter);
            }
        }
        return drawn;
    }

    private int drawOne(char parameter) {
        if (random.nextInt(150) == 0) {
            return new int[] {-1, 8, 12, 15, 24, 25, Integer.MIN_VALUE, Integer.MAX_VALUE}[random.nextInt(8)];
        }
        switch (parameter) {
            case 'c': return random.nextInt(12);
            case 'k': return drawKind();
            case 'n': return drawLength();
            case 's': return random.nextInt(8);
            case 't': return random.nextInt(41) - 20;
            default: return random.nextInt(10) == 0 ? random.nextInt(27) - 1 : random.nextInt(4);
        }
    }

    private long drawValue() {
        int way = random.nextInt(10);
        if (way < 6) {
            return random.nextInt(4);
        }
        return way < 9 ? EDGES[random.nextInt(EDGES.length)] : random.nextLong() >> random.nextInt(64);
    }

    private void compare(int which, int[] p) {
        // What an object answers after its 512th call is free.
        if (wrong || calls + 2 > MOST_CALLS) {
            return;
        }
        calls += 2;
        Number got = ask(which, p);
        Number want = model.call(which, p);
        story.append(tell(which, p)).append(" answered ").append(got);
        if (!got.equals(want)) {
            wrong = true;
            story.append(", due is ").append(want);
        }
        int why = house.why();
        int due = model.call(23, p).intValue();
        story.append(", why ").append(why);
        if (why != due) {
            wrong = true;
            story.append(", due is ").append(due);
        }
        story.append('\n');
    }

    private static String tell(int which, int[] p) {
        String shape = PARAMETERS[which].replace("v", "vv");
        StringBuilder text = new StringBuilder(CALLS[which]).append('(');
        for (int k = 0; k < shape.length(); k++) {
            text.append(k == 0 ? "" : ", ").append(p[k]);
        }
        return text.append(')').toString();
    }

    private void lookAtRow(int c) {
        compare(3, new int[] {c, 0, 0, 0, 0});
        Object held = model.inColumn(c);
        int kind = ArrayModel.kindOf(held);
        if (held == null || kind > 11) {
            return;
        }
        compare(2, new int[] {c, 0, 0, 0, 0});
        List<Object> contents = ArrayModel.contents(held);
        for (int i = 0; i < contents.size(); i++) {
            compare(kind <= 5 ? 9 : kind <= 7 ? 10 : 11, new int[] {c, i, kind, 0, 0});
        }
    }

    /** Which things they are: one after the other is taken to column 0, which was looked at. */
    private void lookAtThings(int c) {
        if (c == 0 || kindIn(c) < 8 || kindIn(c) > 11) {
            return;
        }
        for (int i = 0; i < lengthIn(c); i++) {
            compare(12, new int[] {c, i, 0, 0, 0});
            compare(4, new int[] {0, 0, 0, 0, 0});
            compare(2, new int[] {0, 0, 0, 0, 0});
        }
    }

    private Number ask(int which, int[] p) {
        switch (which) {
            case 0: return house.make(p[0], p[1], p[2]);
            case 1: return house.lay(p[0], p[1]);
            case 2: return house.places(p[0]);
            case 3: return house.kind(p[0]);
            case 4: return house.tag(p[0]);
            case 5: return house.load(p[0]);
            case 6: return house.put(p[0], p[1], p[2], p[3], p[4]);
            case 7: return house.putBoxed(p[0], p[1], p[2], p[3], p[4]);
            case 8: return house.putThing(p[0], p[1], p[2]);
            case 9: return house.number(p[0], p[1], p[2]);
            case 10: return house.point(p[0], p[1], p[2]);
            case 11: return house.what(p[0], p[1]);
            case 12: return house.take(p[0], p[1], p[2]);
            case 13: return house.copy(p[0], p[1]);
            case 14: return house.gather(p[0], p[1], p[2]);
            case 15: return house.scatter(p[0], p[1], p[2]);
            case 16: return house.merge(p[0], p[1], p[2]);
            case 17: return house.sort(p[0]);
            case 18: return house.turn(p[0], p[1]);
            case 19: return house.sum(p[0]);
            case 20: return house.total(p[0]);
            case 21: return house.find(p[0], p[1], p[2], p[3], p[4]);
            case 22: return house.alike(p[0], p[1]);
            default: return house.why();
        }
    }
}
