import java.util.ArrayList;
import java.util.List;
import java.util.Map;
import java.util.Random;
import java.util.TreeMap;

/** Runs of calls drawn from a fixed seed: the program and the model answer the same, call by call. */
public final class RandomRunsTest {
    private static final Checks C = new Checks();
    private static final Map<String, Integer> SEEN = new TreeMap<>();
    private static final int[] FEW = {'a', 'b', 'x', 'n', '-', '.', '1', 'A', 'Q', '!', 200, 201, 202, 203, 204, 300,
        301, 302, 768, 769, 770, 803, 2381, 8204, 8205, 4352, 4449, 4520, 4519, 44032, 44033, 55203, 1488, 1489, 1632,
        64262, 65536, 1114111, 55295, 57344};
    private static final int[] ODD = {-2, -1, 0, 1, 2, 3, 4, 5, 9, 127, 128, 254, 255, 55296, 57343, 1114112,
        Integer.MIN_VALUE, Integer.MAX_VALUE};

    /** Of a long row that comes in point by point, and some more. */
    private static final int MOST_CALLS_AT_ONCE = 330;

    private final Random random;
    private final Names x = new Names();
    private final Model m = new Model();
    private final StringBuilder run = new StringBuilder();
    private boolean same = true;

    private RandomRunsTest(int seed) {
        random = new Random(seed);
    }

    public static void main(String[] args) {
        int runs = args.length > 0 ? Integer.parseInt(args[0]) : 6000;
        int first = args.length > 1 ? Integer.parseInt(args[1]) : 0;
        for (int seed = first; seed < first + runs; seed++) {
            new RandomRunsTest(seed).go(seed);
        }
        System.out.println("answers below 0, and faults, that came up: " + SEEN);
        for (int f : new int[] {10, 20, 30, 32, 40, 41, 42, 43, 44, 45, 46, 51, 52, 53, 60}) {
            C.due("fault " + f + " came up", SEEN.getOrDefault("fault " + f, 0) > 0);
        }
        C.end();
    }

    private void go(int seed) {
        if (seed % 4 != 0) {
            tables();
        }
        while (same && x.left() > MOST_CALLS_AT_ONCE) {
            call();
        }
        state(0, 300);
        C.due("run " + seed + " is the same" + (same ? "" : ": " + run), same);
    }

    private boolean same(String call, int got, int want) {
        run.append(call).append(" = ").append(got).append("; ");
        if (got < 0) {
            SEEN.merge(call.substring(0, call.indexOf('(')) + " " + Math.max(got, -10), 1, Integer::sum);
        }
        if (got != want) {
            run.append("due is ").append(want);
            same = false;
        }
        return same;
    }

    private int one(int... of) {
        return of[random.nextInt(of.length)];
    }

    private int aPoint() {
        int dice = random.nextInt(40);
        if (dice == 0) {
            return one(ODD);
        }
        return dice == 1 ? random.nextInt(1114112) : dice < 16 ? one('a', 'b', 'x', '1', '-', '.') : one(FEW);
    }

    private void tables() {
        for (int i = random.nextInt(30); i >= 0 && same; i--) {
            switch (random.nextInt(4)) {
                case 0 -> rank();
                case 1 -> parts();
                case 2 -> range();
                default -> parts();
            }
        }
    }

    private void rank() {
        int p = aPoint();
        int r = random.nextInt(20) == 0 ? one(ODD) : one(0, 9, 9, 10, 20, 20, 230);
        same("rank(" + p + ", " + r + ")", x.rank(p, r), m.rank(p, r));
    }

    private void parts() {
        int p = random.nextInt(3) == 0 ? aPoint() : one(200, 201, 202, 203, 204, 300, 301, 302, 900, 901, 902, 64262);
        int a = random.nextInt(3) == 0 ? aPoint() : one('a', 'b', 200, 201, 202, 203, 204, 300);
        int b = random.nextInt(3) == 0 ? aPoint() : one(0, 'a', 'b', 200, 201, 202, 768, 769, 803, 770);
        boolean e = random.nextInt(5) == 0;
        same("parts(" + p + ", " + a + ", " + b + ", " + e + ")", x.parts(p, a, b, e), m.parts(p, a, b, e));
    }

    private int[] span() {
        int first = aPoint();
        int last = random.nextInt(3) > 0 ? first : random.nextBoolean() ? first + random.nextInt(300) : aPoint();
        return new int[] {first, last};
    }

    private void range() {
        int[] s = span();
        int kind = random.nextInt(30) == 0 ? one(ODD) : random.nextInt(3);
        int v = random.nextInt(30) == 0 ? one(ODD) : random.nextInt(kind == 0 ? 2 : kind == 1 ? 11 : 5);
        same("range(" + kind + ", " + s[0] + ", " + s[1] + ", " + v + ")",
                x.range(kind, s[0], s[1], v), m.range(kind, s[0], s[1], v));
    }

    private void status() {
        int[] s = span();
        int v = random.nextInt(30) == 0 ? one(ODD) : one(0, 0, 1, 3);
        same("status(" + s[0] + ", " + s[1] + ", " + v + ")", x.status(s[0], s[1], v), m.status(s[0], s[1], v));
    }

    private void add(int p) {
        same("add(" + p + ")", x.add(p), m.add(p));
    }

    private void aRow(int most) {
        add(-1);
        for (int i = random.nextInt(most + 1); i > 0; i--) {
            add(aPoint());
        }
    }

    private void feedAll(List<Integer> octets) {
        same("feed(0, 0)", x.feed(0, 0), m.feed(0, 0));
        for (int i = 0; i < octets.size(); i += 8) {
            int n = Math.min(8, octets.size() - i);
            long v = random.nextLong();
            for (int k = 0; k < n; k++) {
                v = v << 8 | octets.get(i + k);
            }
            same("feed(" + v + ", " + n + ")", x.feed(v, n), m.feed(v, n));
        }
    }

    private List<Integer> letters(List<Integer> label) {
        List<Integer> all = new ArrayList<>(List.of(120, 110, 45, 45));
        all.addAll(Model.encoded(label));
        if (random.nextInt(6) == 0) {
            all.add(random.nextInt(all.size() + 1), one('a', 'z', '9', '-', 252, 'Z', '!'));
        }
        if (random.nextInt(8) == 0) {
            all.remove(random.nextInt(all.size()));
        }
        return all;
    }

    private void aText() {
        List<Integer> octets = new ArrayList<>();
        int labels = random.nextInt(20) == 0 ? random.nextInt(70) : random.nextInt(4);
        int most = random.nextInt(12) == 0 ? 90 : 6;
        for (int k = 0; k <= labels; k++) {
            List<Integer> label = new ArrayList<>();
            for (int i = random.nextInt(10) == 0 ? 0 : 1 + random.nextInt(most); i > 0; i--) {
                int p = random.nextInt(3) == 0 ? one('a', 'b', '1', 'x', 'n') : aPoint();
                if (Model.isPoint(p)) {
                    label.add(p);
                }
            }
            if (random.nextInt(3) == 0) {
                label = letters(label);
            }
            for (int p : label) {
                for (int o : Checks.octets(new String(Character.toChars(p)))) {
                    octets.add(o);
                }
            }
            if (k < labels) {
                octets.add((int) '.');
            }
        }
        if (random.nextInt(12) == 0 && !octets.isEmpty()) {
            octets.set(random.nextInt(octets.size()), one(128, 191, 192, 194, 224, 237, 240, 244, 245, 255, 144, 160));
        }
        if (random.nextInt(12) == 0 && !octets.isEmpty()) {
            octets.remove(random.nextInt(octets.size()));
        }
        feedAll(octets.subList(0, Math.min(octets.size(), 410)));
    }

    /** Labels that may well be too long, alone or together, and little else. */
    private void aLongText() {
        List<Integer> octets = new ArrayList<>();
        int most = one(3, 20, 66);
        while (octets.size() < 380) {
            for (int i = random.nextInt(40) == 0 ? 0 : 1 + random.nextInt(most); i > 0; i--) {
                octets.addAll(random.nextInt(30) == 0 ? List.of(195, 188) : List.of(one('a', 'b', 'x')));
            }
            octets.add((int) '.');
            if (random.nextInt(most == 3 ? 100 : 8) == 0) {
                break;
            }
        }
        feedAll(octets.subList(0, Math.min(octets.size(), 400)));
    }

    private void call() {
        switch (random.nextInt(24)) {
            case 0 -> rank();
            case 1 -> parts();
            case 2 -> range();
            case 3 -> status();
            case 4 -> {
                aRow(5);
                int p = aPoint();
                same("map(" + p + ")", x.map(p), m.map(p));
            }
            case 5 -> aRow(random.nextInt(10) == 0 ? 310 : 12);
            case 6 -> add(aPoint());
            case 7 -> same("read()", x.read(), m.read());
            case 8 -> {
                int kind = random.nextInt(20) == 0 ? one(ODD) : random.nextInt(2);
                same("form(" + kind + ")", x.form(kind), m.form(kind));
            }
            case 9 -> same("inForm()", x.inForm(), m.inForm());
            case 10 -> same("alike()", x.alike(), m.alike());
            case 11 -> same("encode()", x.encode(), m.encode());
            case 12 -> same("decode()", x.decode(), m.decode());
            case 13 -> {
                int p = aPoint();
                int what = random.nextInt(10) == 0 ? one(ODD) : random.nextInt(5);
                same("about(" + p + ", " + what + ")", x.about(p, what), m.about(p, what));
            }
            case 14 -> {
                long v = random.nextLong();
                int n = one(1, 2, 3, 8, 0, 9, -1);
                same("feed(" + v + ", " + n + ")", x.feed(v, n), m.feed(v, n));
            }
            case 15 -> letterRow();
            default -> domain();
        }
        if (random.nextInt(4) == 0) {
            state(random.nextInt(300) - 1, 2);
        }
    }

    private void letterRow() {
        List<Integer> label = new ArrayList<>();
        for (int i = random.nextInt(9); i > 0; i--) {
            label.add(random.nextInt(4) == 0 ? random.nextInt(50000) : one('a', 252, 253, 1488, 'Z'));
        }
        List<Integer> all = letters(label);
        add(-1);
        for (int p : all.subList(Math.min(4, all.size()), all.size())) {
            add(p);
        }
        same("decode()", x.decode(), m.decode());
    }

    private void domain() {
        if (random.nextInt(10) == 0) {
            aLongText();
        } else {
            aText();
        }
        boolean plain = random.nextBoolean();
        same("make(" + plain + ")", x.make(plain), m.make(plain));
        SEEN.merge("fault " + x.fault(0), 1, Integer::sum);
    }

    /** What can be asked without changing anything: so many points and octets from one place on. */
    private void state(int from, int count) {
        for (int i = 0; i < 4 && same; i++) {
            same("fault(" + i + ")", x.fault(i), m.fault(i));
        }
        for (int i = from; i < from + count && same && x.left() > 1; i++) {
            int point = x.point(i);
            int octet = x.octet(i);
            if (point != m.point(i) || octet != m.octet(i)) {
                same("point(" + i + ")", point, m.point(i));
                same("octet(" + i + ")", octet, m.octet(i));
            }
        }
    }
}
