import java.nio.charset.StandardCharsets;
import java.util.Arrays;

/** What the tests share: counting of answers, and runs of calls that come up again and again. */
final class Checks {
    private int wrong = 0;
    private int right = 0;

    void due(String what, long got, long want) {
        if (got == want) {
            right++;
        } else {
            wrong++;
            System.out.println(what + ": answered " + got + ", due is " + want);
        }
    }

    void due(String what, int[] got, int... want) {
        if (Arrays.equals(got, want)) {
            right++;
        } else {
            wrong++;
            System.out.println(what + ": is " + Arrays.toString(got) + ", due is " + Arrays.toString(want));
        }
    }

    void due(String what, boolean holds) {
        due(what, holds ? 1 : 0, 1);
    }

    void end() {
        System.out.println(right + " answers are as due, " + wrong + " are not");
        if (wrong > 0 || right == 0) {
            System.exit(1);
        }
    }

    /** THE TEXT is these octets alone. */
    static void text(WideNames x, int... octets) {
        x.feed(0, 0);
        int i = 0;
        while (i < octets.length) {
            int n = Math.min(8, octets.length - i);
            long v = 0;
            for (int k = 0; k < n; k++) {
                v = v << 8 | octets[i + k];
            }
            x.feed(v, n);
            i += n;
        }
    }

    static void text(WideNames x, String s) {
        text(x, octets(s));
    }

    static int[] octets(String s) {
        byte[] bytes = s.getBytes(StandardCharsets.UTF_8);
        int[] octets = new int[bytes.length];
        for (int i = 0; i < bytes.length; i++) {
            octets[i] = bytes[i] & 255;
        }
        return octets;
    }

    static int[] points(String s) {
        return s.codePoints().toArray();
    }

    /** The row at hand is these points alone. */
    static WideNames row(WideNames x, int... points) {
        x.add(-1);
        for (int p : points) {
            x.add(p);
        }
        return x;
    }

    static WideNames row(WideNames x, String s) {
        return row(x, points(s));
    }

    static WideNames rowOf(int count, int point) {
        return row(new WideNames(), many(count, point));
    }

    static int[] many(int count, int value) {
        int[] values = new int[count];
        Arrays.fill(values, value);
        return values;
    }

    static int[] join(int[]... rows) {
        return Arrays.stream(rows).flatMapToInt(Arrays::stream).toArray();
    }

    /** The row at hand, asked point by point. */
    static int[] row(WideNames x) {
        int[] points = new int[1000];
        int n = 0;
        while (n < points.length && x.point(n) != -1) {
            points[n] = x.point(n);
            n++;
        }
        return Arrays.copyOf(points, n);
    }

    /** What was made last, asked octet by octet. */
    static int[] made(WideNames x) {
        int[] octets = new int[5000];
        int n = 0;
        while (n < octets.length && x.octet(n) != -1) {
            octets[n] = x.octet(n);
            n++;
        }
        return Arrays.copyOf(octets, n);
    }

    static int[] faults(WideNames x) {
        return new int[] {x.fault(0), x.fault(1), x.fault(2), x.fault(3)};
    }

    /** A domain is made of a text without a fault, and is what is due. */
    void dueMade(WideNames x, String from, boolean plain, String want, int labels) {
        text(x, from);
        String call = "make(" + plain + ") of " + from;
        due(call, x.make(plain), octets(want).length);
        due(call + ", its octets", made(x), octets(want));
        due(call + ", fault()", faults(x), 0, 0, 0, labels);
    }

    /** A domain is not made of a text: the fault, its label, its place, and how many labels are whole. */
    void dueFault(WideNames x, String from, boolean plain, int... want) {
        text(x, from);
        int[] before = made(x);
        String call = "make(" + plain + ") of " + from;
        due(call, x.make(plain), -10 - want[0]);
        due(call + ", fault()", faults(x), want);
        due(call + ", octets of before", made(x), before);
    }
}
