import java.net.IDN;
import java.text.Normalizer;
import java.util.Random;

/** The program beside what others have written: Java's own one form, its own few letters; and all octets at edges. */
public final class OraclesTest {
    private static final Checks C = new Checks();

    /** Marks of Unicode and their ranks there. */
    private static final int[][] MARKS = {{768, 230}, {769, 230}, {770, 230}, {771, 230}, {772, 230}, {774, 230},
        {775, 230}, {776, 230}, {777, 230}, {778, 230}, {780, 230}, {795, 216}, {803, 220}, {807, 202}, {808, 202},
        {813, 220}, {816, 220}, {817, 220}, {824, 1}, {837, 240}, {2364, 7}, {2381, 9}};

    public static void main(String[] args) {
        forms();
        letters();
        octets();
        C.end();
    }

    private static String normal(String s, boolean apart) {
        return Normalizer.normalize(s, apart ? Normalizer.Form.NFD : Normalizer.Form.NFC);
    }

    /** Tells up to 100 points with Unicode's own parts: all but the last in one form, and the last. */
    private static Told told(int from, int to, StringBuilder points) {
        Told told = new Told();
        Names tried = new Names();
        for (int[] mark : MARKS) {
            told.rank(mark[0], mark[1]);
            points.appendCodePoint(mark[0]);
        }
        for (int p = from; p <= to && tried.left() > 0; p++) {
            String apart = normal(Character.toString(p), true);
            int[] parts = apart.codePoints().toArray();
            if (parts.length < 2) {
                continue;
            }
            int last = parts[parts.length - 1];
            String rest = normal(new String(parts, 0, parts.length - 1), false);
            boolean excluded = !normal(apart, false).equals(Character.toString(p));
            int first = rest.codePointAt(0);
            if (isRanked(last) && rest.codePointCount(0, rest.length()) == 1 && isTold(points, rest)
                    && tried.parts(p, first, last, excluded) > 0) {
                points.appendCodePoint(p);
                told.parts(p, first, last, excluded);
            }
        }
        return told;
    }

    private static boolean isRanked(int point) {
        for (int[] mark : MARKS) {
            if (mark[0] == point) {
                return true;
            }
        }
        return false;
    }

    /** Whether a point was told of, or never comes apart. */
    private static boolean isTold(StringBuilder points, String point) {
        return normal(point, true).equals(point) || points.indexOf(point) >= 0;
    }

    private static void forms() {
        int[][] blocks = {{7680, 7935}, {2000, 3000}, {7800, 7930}, {8500, 11000}};
        for (int[] block : blocks) {
            StringBuilder points = new StringBuilder("aAeEoOuUsdDlLrR");
            Told told = told(block[0], block[1], points);
            points.append("\u1100\u1161\u11a8\uac00\uac01");
            int[] all = points.codePoints().toArray();
            C.due("some points come apart", all.length > 40);
            Random random = new Random(block[0]);
            for (int i = 0; i < 3000; i++) {
                int[] row = new int[random.nextInt(8)];
                for (int k = 0; k < row.length; k++) {
                    row[k] = all[random.nextInt(all.length)];
                }
                String s = new String(row, 0, row.length);
                if (staysInTables(s, points)) {
                    one(told, s, row);
                }
            }
        }
    }

    /** Whether Java's one form makes nothing but points that the program was told of. */
    private static boolean staysInTables(String s, StringBuilder points) {
        return normal(s, false).codePoints().allMatch(p -> p >= 44032 && p <= 55203
                || isTold(points, Character.toString(p)));
    }

    private static void one(Told told, String s, int[] row) {
        Names x = told.copy().row(row).fresh();
        C.due("13: inForm() of " + s, x.inForm(), normal(s, false).equals(s) ? 1 : 0);
        x.form(0);
        C.due("12: form(0) of " + s, Checks.row(x), Checks.points(normal(s, true)));
        Checks.row(x, row);
        x.form(1);
        C.due("12: form(1) of " + s, Checks.row(x), Checks.points(normal(s, false)));
    }

    private static void letters() {
        Random random = new Random(7);
        Told x = new Told();
        int[] few = {'a', 'b', 'z', '5', 0xe4, 0xf6, 0xfc, 0x3b1, 0x3c9, 0x431, 0x4e2d, 0x6587, 0x3042, 0x20000};
        for (int i = 0; i < 3000; i++) {
            int[] row = new int[1 + random.nextInt(12)];
            for (int k = 0; k < row.length; k++) {
                row[k] = few[random.nextInt(few.length)];
            }
            String s = new String(row, 0, row.length);
            String plain = IDN.toASCII(s, IDN.ALLOW_UNASSIGNED);
            C.dueMade(x, s, true, plain, 1);
            C.dueMade(x, plain, false, s, 1);
        }
    }

    private static void octets() {
        int[] edges = {0, 127, 128, 143, 144, 159, 160, 191, 192, 255};
        Names x = new Names();
        Model m = new Model();
        int wrong = 0;
        for (int two = 0; two < 65536; two++) {
            for (int c : edges) {
                x = withCallsLeft(x, 60);
                wrong += readsAlike(x, m, two * 256L + c, 3) ? 0 : 1;
                for (int d : edges) {
                    wrong += readsAlike(x, m, (two * 256L + c) * 256 + d, 4) ? 0 : 1;
                }
            }
        }
        C.due("3: texts of octets at the edges that are read otherwise than the model reads them", wrong, 0);
    }

    private static Names withCallsLeft(Names x, int calls) {
        return x.left() < calls ? new Names() : x;
    }

    private static boolean readsAlike(Names x, Model m, long v, int n) {
        x.feed(0, 0);
        x.feed(v, n);
        m.feed(0, 0);
        m.feed(v, n);
        int got = x.read();
        return got == m.read() && (got < 0 || x.point(0) == m.point(0) && x.point(got - 1) == m.point(got - 1));
    }
}
