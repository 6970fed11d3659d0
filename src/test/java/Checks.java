import java.nio.charset.StandardCharsets;
import java.util.Arrays;
import java.util.function.ToIntFunction;

/** What the tests share: counting of answers, and runs of calls that come up again and again. */
final class Checks {
    static final int TOP = 1114111;
    /** Below all POINTS, in their gap and above them. */
    static final int[] NO_POINTS = {-1, Integer.MIN_VALUE, 55296, 55297, 57342, 57343, TOP + 1, Integer.MAX_VALUE};
    /** The points beside those. */
    static final int[] LAST_POINTS = {0, 1, 55294, 55295, 57344, 57345, TOP - 1, TOP};

    private int wrong = 0;
    private int right = 0;

    void due(String what, long got, long want) {
        if (got == want) {
            right++;
        } else {
            wrong++;
            System.out.println(what + ": answered " + got + ", due is " + want);
        }
    }

    void due(String what, int[] got, int... want) {
        if (Arrays.equals(got, want)) {
            right++;
        } else {
            wrong++;
            System.out.println(what + ": is " + shortly(got) + ", due is " + shortly(want) + ", differs at "
                    + Arrays.mismatch(got, want));
        }
    }

    private static String shortly(int... row) {
        return row.length > 40 ? row.length + " of " + Arrays.toString(Arrays.copyOf(row, 40)) : Arrays.toString(row);
    }

    void due(String what, boolean holds) {
        due(what, holds ? 1 : 0, 1);
    }

    void end() {
        System.out.println(right + " answers are as due, " + wrong + " are not");
        if (wrong > 0 || right == 0) {
            System.exit(1);
        }
    }

    /** THE TEXT is these octets alone. */
    static Names text(Names x, int... octets) {
        x.feed(0, 0);
        int i = 0;
        while (i < octets.length) {
            int n = Math.min(8, octets.length - i);
            long v = 0;
            for (int k = 0; k < n; k++) {
                v = v << 8 | octets[i + k];
            }
            x.feed(v, n);
            i += n;
        }
        return x;
    }

    static Names text(Names x, String s) {
        return text(x, octets(s));
    }

    static int[] octets(String s) {
        byte[] bytes = s.getBytes(StandardCharsets.UTF_8);
        int[] octets = new int[bytes.length];
        for (int i = 0; i < bytes.length; i++) {
            octets[i] = bytes[i] & 255;
        }
        return octets;
    }

    static int[] points(String s) {
        return s.codePoints().toArray();
    }

    static String of(int... points) {
        return new String(points, 0, points.length);
    }

    /** A label of few letters that stands for these points. */
    static String coded(int... points) {
        Names x = row(new Names(), points);
        x.encode();
        return "xn--" + of(row(x));
    }

    /** The row at hand is these points alone. */
    static Names row(Names x, int... points) {
        x.add(-1);
        for (int p : points) {
            x.add(p);
        }
        return x;
    }

    static Names row(Names x, String s) {
        return row(x, points(s));
    }

    static int[] many(int count, int value) {
        int[] values = new int[count];
        Arrays.fill(values, value);
        return values;
    }

    static int[] join(int[]... rows) {
        return Arrays.stream(rows).flatMapToInt(Arrays::stream).toArray();
    }

    /** The row at hand, asked point by point. */
    static int[] row(Names x) {
        int[] points = new int[Names.MOST_CALLS];
        int n = 0;
        int p = x.point(0);
        while (p != -1) {
            points[n] = p;
            n++;
            p = x.point(n);
        }
        return Arrays.copyOf(points, n);
    }

    /** What was made last, asked octet by octet. */
    static int[] made(Names x) {
        int[] octets = new int[Names.MOST_CALLS];
        int n = 0;
        int o = x.octet(0);
        while (o != -1) {
            octets[n] = o;
            n++;
            o = x.octet(n);
        }
        return Arrays.copyOf(octets, n);
    }

    static int[] faults(Names x) {
        return new int[] {x.fault(0), x.fault(1), x.fault(2), x.fault(3)};
    }

    /** A domain is made of a text without a fault, and is what is due. */
    void dueMade(Told tables, String from, boolean plain, String want, int labels) {
        String call = "make(" + plain + ") of " + from;
        int[] octets = octets(want);
        Names x = text(tables.fresh(), from);
        due(call, x.make(plain), octets.length);
        due(call + ", fault()", faults(x), 0, 0, 0, labels);
        for (int i = 0; i <= octets.length; i++) {
            if (x.left() == 0) {
                x = text(tables.fresh(), from);
                x.make(plain);
            }
            due(call + ", octet(" + i + ")", x.octet(i), i < octets.length ? octets[i] : -1);
        }
    }

    /**
     * A domain is not made of a text: the fault, its label, its place, and how many labels are whole; octets are told
     * of what was made before.
     */
    void dueFault(Told tables, String from, boolean plain, int... want) {
        dueFault(tables, octets(from), plain, want);
    }

    void dueFault(Told tables, int[] from, boolean plain, int... want) {
        Names x = text(tables.fresh(), "q7");
        x.make(false);
        int[] before = made(x);
        String call = "make(" + plain + ") of " + shortly(from);
        due(call, text(x, from).make(plain), -10 - want[0]);
        due(call + ", fault()", faults(x), want);
        due(call + ", octets of before", made(x), before);
    }

    /** A call on a fresh object. */
    void due(String what, Told before, ToIntFunction<Names> call, int want) {
        due(what, call.applyAsInt(before.fresh()), want);
    }

    /** A call on a fresh object that answers how many points the row at hand has then. */
    void dueRow(String what, Told before, ToIntFunction<Names> call, int... want) {
        Names x = before.fresh();
        due(what + ", how many", call.applyAsInt(x), want.length);
        due(what, row(x), want);
    }

    /**
     * A call is refused, and changes nothing: an object that was refused it answers all else as one that was never
     * asked. The points are those of which more is asked.
     */
    void refused(String what, Told before, ToIntFunction<Names> call, int want, int... points) {
        due(what, before, call, want);
        dueAlike(what, before, call, Looks.COUNT, points);
    }

    /** A domain is not made of a text: this changes nothing but what fault() tells. */
    void refusedMake(Told tables, int[] from, boolean plain, int... want) {
        dueFault(tables, from, plain, want);
        Told before = tables.copy().text("q7").then(x -> x.make(false)).row('r', 's').text(from);
        dueAlike("make(" + plain + ") of " + shortly(from), before, x -> x.make(plain), Looks.COUNT - 1);
    }

    private void dueAlike(String what, Told before, ToIntFunction<Names> call, int looks, int... points) {
        for (int look = 0; look < looks; look++) {
            Names asked = before.fresh();
            call.applyAsInt(asked);
            int most = asked.left();
            int[] got = new Looks(asked, most, points).at(look);
            due(what + ", and changes nothing (" + look + ")", got, new Looks(before.fresh(), most, points).at(look));
        }
    }
}
