import java.math.BigInteger;
import java.util.ArrayList;
import java.util.HashMap;
import java.util.List;
import java.util.Map;

/**
 * The document's words once more, written as literally as the Java library allows and apart from the program,
 * so that a slip in one of both shows as a difference.
 */
final class Model {
    private static final BigInteger MOST = BigInteger.valueOf(Integer.MAX_VALUE);

    List<Integer> text = new ArrayList<>();
    List<Integer> row = new ArrayList<>();
    List<Object[]> statuses = new ArrayList<>();
    List<int[]> ranges = new ArrayList<>();
    Map<Integer, int[]> parts = new HashMap<>();
    Map<Integer, Integer> ranks = new HashMap<>();
    int[] fault = new int[4];
    List<Integer> made = new ArrayList<>();

    /** Ends an answer: a refusal, or a fault on the way. */
    static final class Stop extends Exception {
        private static final long serialVersionUID = 1;
        final transient int[] what;

        Stop(int... what) {
            super(null, null, false, false);
            this.what = what;
        }
    }

    static boolean isPoint(long p) {
        return p >= 0 && p <= 0x10FFFF && !(p >= 0xD800 && p <= 0xDFFF);
    }

    static boolean isRange(int p) {
        return p >= 0 && p <= 0x10FFFF;
    }

    int feed(long v, int n) {
        if (n < 0 || n > 8) {
            return -2;
        }
        if (n == 0) {
            text = new ArrayList<>();
            return 0;
        }
        if (text.size() + n > 400) {
            return -4;
        }
        byte[] eight = java.nio.ByteBuffer.allocate(8).putLong(v).array();
        for (int i = 8 - n; i < 8; i++) {
            text.add(eight[i] & 255);
        }
        return text.size();
    }

    private static List<Integer> octetsOf(int p) {
        byte[] bytes = new String(Character.toChars(p)).getBytes(java.nio.charset.StandardCharsets.UTF_8);
        List<Integer> octets = new ArrayList<>();
        for (byte b : bytes) {
            octets.add(b & 255);
        }
        return octets;
    }

    /** Whether some point's octets begin with these; with four, three or two octets tried by arithmetic alone. */
    private static boolean beginsAPoint(List<Integer> some) {
        int first = some.get(0);
        int size = first < 0x80 ? 1 : first < 0xC0 ? 0 : first < 0xE0 ? 2 : first < 0xF0 ? 3 : first < 0xF8 ? 4 : 0;
        if (size == 0 || some.size() > size) {
            return false;
        }
        int mask = size == 1 ? 127 : size == 2 ? 31 : size == 3 ? 15 : 7;
        int low = first & mask;
        int high = low;
        for (int i = 1; i < size; i++) {
            boolean there = i < some.size();
            if (there && (some.get(i) & 0xC0) != 0x80) {
                return false;
            }
            low = low << 6 | (there ? some.get(i) & 63 : 0);
            high = high << 6 | (there ? some.get(i) & 63 : 63);
        }
        int least = size == 1 ? 0 : size == 2 ? 0x80 : size == 3 ? 0x800 : 0x10000;
        for (int p : new int[] {Math.max(low, least), Math.min(high, 0x10FFFF), Math.max(low, 0xE000)}) {
            if (p >= low && p <= high && p >= least && isPoint(p)) {
                return true;
            }
        }
        return false;
    }

    /** The points; stops with the place of a fault, or with -1 when there are too many. */
    private List<Integer> readText() throws Stop {
        List<Integer> points = new ArrayList<>();
        List<Integer> some = new ArrayList<>();
        for (int i = 0; i < text.size(); i++) {
            some.add(text.get(i));
            if (!beginsAPoint(some)) {
                throw new Stop(i);
            }
            int first = some.get(0);
            int size = first < 0x80 ? 1 : first < 0xE0 ? 2 : first < 0xF0 ? 3 : 4;
            if (some.size() == size) {
                byte[] bytes = new byte[size];
                for (int k = 0; k < size; k++) {
                    bytes[k] = (byte) (int) some.get(k);
                }
                points.add(new String(bytes, java.nio.charset.StandardCharsets.UTF_8).codePointAt(0));
                some = new ArrayList<>();
                if (points.size() > 300) {
                    throw new Stop(-1);
                }
            }
        }
        if (!some.isEmpty()) {
            throw new Stop(text.size());
        }
        return points;
    }

    int read() {
        try {
            row = readText();
            return row.size();
        } catch (Stop s) {
            return s.what[0] < 0 ? -4 : -10 - s.what[0];
        }
    }

    int point(int i) {
        return i >= 0 && i < row.size() ? row.get(i) : -1;
    }

    int add(int point) {
        if (point == -1) {
            row = new ArrayList<>();
            return 0;
        }
        if (!isPoint(point)) {
            return -2;
        }
        if (row.size() == 300) {
            return -4;
        }
        row = new ArrayList<>(row);
        row.add(point);
        return row.size();
    }

    int status(int first, int last, int status) {
        if (!isRange(first) || !isRange(last) || first > last || !List.of(0, 1, 3).contains(status)) {
            return -2;
        }
        if (statuses.size() == 200) {
            return -4;
        }
        statuses.add(new Object[] {first, last, status, null});
        return 1;
    }

    int map(int point) {
        if (!isPoint(point) || row.isEmpty() || row.size() > 4) {
            return -2;
        }
        if (statuses.size() == 200) {
            return -4;
        }
        statuses.add(new Object[] {point, point, 2, new ArrayList<>(row)});
        return 1;
    }

    static boolean ofSyllables(int p) {
        return p >= 44032 && p <= 55203 || p >= 4352 && p <= 4370 || p >= 4449 && p <= 4469 || p >= 4520 && p <= 4546;
    }

    int parts(int point, int a, int b, boolean excluded) {
        for (int p : new int[] {point, a, b}) {
            if (!isPoint(p) || ofSyllables(p)) {
                return -2;
            }
        }
        if (a >= point || b >= point || a == 0 || point < 128) {
            return -2;
        }
        if (parts.containsKey(point)) {
            return -3;
        }
        for (int[] other : parts.values()) {
            if (b != 0 && !excluded && other[0] == a && other[1] == b && other[2] == 0) {
                return -3;
            }
        }
        if (parts.size() == 100) {
            return -4;
        }
        parts.put(point, new int[] {a, b, excluded ? 1 : 0});
        return parts.size();
    }

    int rankOf(int p) {
        return ranks.getOrDefault(p, 0);
    }

    int rank(int point, int rank) {
        if (!isPoint(point) || point < 128 || rank < 0 || rank > 254) {
            return -2;
        }
        int others = ranks.size() - (ranks.containsKey(point) ? 1 : 0);
        if (others == 100) {
            return -4;
        }
        int was = rankOf(point);
        ranks.put(point, rank);
        return was;
    }

    int range(int kind, int first, int last, int v) {
        if (kind < 0 || kind > 2 || v < 0 || v > new int[] {1, 10, 4}[kind]) {
            return -2;
        }
        if (!isRange(first) || !isRange(last) || first > last) {
            return -2;
        }
        if (ranges.size() == 200) {
            return -4;
        }
        ranges.add(new int[] {kind, first, last, v});
        return 1;
    }

    int ranged(int kind, int p) {
        int v = kind == 1 ? p >= '0' && p <= '9' ? 4 : p == '-' ? 5 : 0 : 0;
        for (int[] r : ranges) {
            if (r[0] == kind && r[1] <= p && p <= r[2]) {
                v = r[3];
            }
        }
        return v;
    }

    int statusOf(int p) {
        int s = p >= 128 || "abcdefghijklmnopqrstuvwxyz0123456789-.".indexOf(p) >= 0 ? 0 : p >= 65 && p <= 90 ? 2 : 3;
        for (Object[] o : statuses) {
            if ((Integer) o[0] <= p && p <= (Integer) o[1]) {
                s = (Integer) o[2];
            }
        }
        return s;
    }

    @SuppressWarnings("unchecked")
    List<Integer> mapped(int p) {
        List<Integer> to = List.of(p + 32);
        for (Object[] o : statuses) {
            if ((Integer) o[0] == p && (Integer) o[1] == p && (Integer) o[2] == 2) {
                to = (List<Integer>) o[3];
            }
        }
        return to;
    }

    int about(int point, int what) {
        if (!isPoint(point)) {
            return -1;
        }
        return what == 0 ? statusOf(point) : what == 1 ? rankOf(point)
                : what >= 2 && what <= 4 ? ranged(what - 2, point) : -2;
    }

    /** What a point comes apart into; never more than 301 points of it. */
    private List<Integer> pointApart(int p) {
        List<Integer> out = new ArrayList<>();
        if (p >= 44032 && p <= 55203) {
            int s = p - 44032;
            out.add(4352 + s / 588);
            out.add(4449 + s % 588 / 28);
            if (s % 28 != 0) {
                out.add(4519 + s % 28);
            }
        } else if (parts.containsKey(p)) {
            int[] two = parts.get(p);
            out.addAll(pointApart(two[0]));
            if (two[1] != 0 && out.size() <= 300) {
                out.addAll(pointApart(two[1]));
            }
        } else {
            out.add(p);
        }
        return out;
    }

    private List<Integer> apart(List<Integer> from) throws Stop {
        List<Integer> out = new ArrayList<>();
        for (int p : from) {
            out.addAll(pointApart(p));
            if (out.size() > 300) {
                throw new Stop(-4);
            }
        }
        boolean changed = true;
        while (changed) {
            changed = false;
            for (int i = 1; i < out.size(); i++) {
                int later = rankOf(out.get(i));
                if (later > 0 && later < rankOf(out.get(i - 1))) {
                    java.util.Collections.swap(out, i, i - 1);
                    changed = true;
                }
            }
        }
        return out;
    }

    private int together(int a, int b) {
        if (a >= 4352 && a <= 4370 && b >= 4449 && b <= 4469) {
            return 44032 + (a - 4352) * 588 + (b - 4449) * 28;
        }
        if (a >= 44032 && a <= 55203 && (a - 44032) % 28 == 0 && b >= 4520 && b <= 4546) {
            return a + b - 4519;
        }
        for (Map.Entry<Integer, int[]> e : parts.entrySet()) {
            int[] v = e.getValue();
            if (v[1] != 0 && v[0] == a && v[1] == b && v[2] == 0) {
                return e.getKey();
            }
        }
        return -1;
    }

    private List<Integer> oneForm(List<Integer> from) throws Stop {
        List<Integer> row = apart(from);
        List<Boolean> begins = new ArrayList<>();
        for (int p : row) {
            begins.add(rankOf(p) == 0);
        }
        int i = 1;
        while (i < row.size()) {
            int b = i - 1;
            while (b >= 0 && !begins.get(b)) {
                b--;
            }
            int whole = -1;
            if (b >= 0) {
                int before = rankOf(row.get(i - 1));
                if (b == i - 1 || before > 0 && before < rankOf(row.get(i))) {
                    whole = together(row.get(b), row.get(i));
                }
            }
            if (whole >= 0) {
                row.set(b, whole);
                row.remove(i);
                begins.remove(i);
            } else {
                i++;
            }
        }
        return row;
    }

    int form(int kind) {
        if (kind != 0 && kind != 1) {
            return -2;
        }
        try {
            row = kind == 0 ? apart(row) : oneForm(row);
            return row.size();
        } catch (Stop s) {
            return -4;
        }
    }

    int inForm() {
        try {
            return oneForm(row).equals(row) ? 1 : 0;
        } catch (Stop s) {
            return 0;
        }
    }

    int alike() {
        List<Integer> other;
        try {
            other = readText();
        } catch (Stop s) {
            return s.what[0] < 0 ? -4 : -10 - s.what[0];
        }
        try {
            return apart(other).equals(apart(row)) ? 1 : 0;
        } catch (Stop s) {
            return -4;
        }
    }

    private static int t(int k, int bias) {
        return Math.min(Math.max(k - bias, 1), 26);
    }

    private static int adapted(int delta, int points, boolean first) {
        delta = delta / (first ? 700 : 2);
        delta += delta / points;
        int k = 0;
        while (delta > 455) {
            delta /= 35;
            k += 36;
        }
        return k + 36 * delta / (delta + 38);
    }

    static List<Integer> encoded(List<Integer> from) {
        List<Integer> out = new ArrayList<>();
        for (int p : from) {
            if (p < 128) {
                out.add(p);
            }
        }
        int below = out.size();
        int h = below;
        if (below > 0) {
            out.add(45);
        }
        int n = 128;
        int delta = 0;
        int bias = 72;
        while (h < from.size()) {
            int m = Integer.MAX_VALUE;
            for (int p : from) {
                if (p >= n) {
                    m = Math.min(m, p);
                }
            }
            delta = Math.addExact(delta, Math.multiplyExact(m - n, h + 1));
            n = m;
            for (int p : from) {
                if (p < n) {
                    delta++;
                }
                if (p == n) {
                    int q = delta;
                    int k = 36;
                    for (; q >= t(k, bias); k += 36) {
                        int t = t(k, bias);
                        out.add((int) "abcdefghijklmnopqrstuvwxyz0123456789".charAt(t + (q - t) % (36 - t)));
                        q = (q - t) / (36 - t);
                    }
                    out.add((int) "abcdefghijklmnopqrstuvwxyz0123456789".charAt(q));
                    bias = adapted(delta, h + 1, h == below);
                    delta = 0;
                    h++;
                }
            }
            delta++;
            n++;
        }
        return out;
    }

    int encode() {
        List<Integer> out = encoded(row);
        if (out.size() > 300) {
            return -4;
        }
        row = out;
        return row.size();
    }

    private static List<Integer> decoded(List<Integer> from) throws Stop {
        for (int i = 0; i < from.size(); i++) {
            if (from.get(i) > 127) {
                throw new Stop(i);
            }
        }
        int dash = from.lastIndexOf(45);
        List<Integer> out = new ArrayList<>();
        int at = 0;
        if (dash > 0) {
            out.addAll(from.subList(0, dash));
            at = dash + 1;
        }
        BigInteger i = BigInteger.ZERO;
        BigInteger n = BigInteger.valueOf(128);
        int bias = 72;
        while (at < from.size()) {
            BigInteger old = i;
            BigInteger w = BigInteger.ONE;
            for (int k = 36;; k += 36) {
                if (at == from.size()) {
                    throw new Stop(at);
                }
                int d = "abcdefghijklmnopqrstuvwxyz0123456789".indexOf(Character.toLowerCase(from.get(at)));
                if (d < 0) {
                    throw new Stop(at);
                }
                i = i.add(w.multiply(BigInteger.valueOf(d)));
                if (i.compareTo(MOST) > 0) {
                    throw new Stop(at);
                }
                if (d < t(k, bias)) {
                    break;
                }
                w = w.multiply(BigInteger.valueOf(36 - t(k, bias)));
                if (w.compareTo(MOST) > 0) {
                    throw new Stop(at);
                }
                at++;
            }
            BigInteger length = BigInteger.valueOf(out.size() + 1);
            bias = adapted(i.subtract(old).intValueExact(), out.size() + 1, old.signum() == 0);
            n = n.add(i.divide(length));
            i = i.mod(length);
            if (!isPoint(n.longValueExact()) || out.size() == 300) {
                throw new Stop(at);
            }
            out.add(i.intValueExact(), n.intValueExact());
            i = i.add(BigInteger.ONE);
            at++;
        }
        return out;
    }

    int decode() {
        try {
            row = decoded(row);
            return row.size();
        } catch (Stop s) {
            return -10 - s.what[0];
        }
    }

    int make(boolean plain) {
        List<List<Integer>> labels = new ArrayList<>();
        try {
            List<Integer> octets = new ArrayList<>();
            List<Integer> all = oneFormOfAll(mappedAll(readForMake()));
            List<List<Integer>> split = split(all);
            for (List<Integer> label : split) {
                labels.add(looked(label, labels.size()));
            }
            directions(labels);
            octets = plain ? plain(labels) : wide(labels);
            made = octets;
            fault = new int[] {0, 0, 0, labels.size()};
            return made.size();
        } catch (Stop s) {
            fault = new int[] {s.what[0], s.what[1], s.what[2], labels.size()};
            return -10 - s.what[0];
        }
    }

    private List<Integer> readForMake() throws Stop {
        try {
            return readText();
        } catch (Stop s) {
            throw s.what[0] < 0 ? new Stop(60, 0, 300) : new Stop(10, 0, s.what[0]);
        }
    }

    private List<Integer> mappedAll(List<Integer> from) throws Stop {
        List<Integer> out = new ArrayList<>();
        for (int i = 0; i < from.size(); i++) {
            int p = from.get(i);
            switch (statusOf(p)) {
                case 0 -> out.add(p);
                case 2 -> out.addAll(mapped(p));
                case 3 -> throw new Stop(20, 0, i);
                default -> { }
            }
            if (out.size() > 300) {
                throw new Stop(60, 0, i);
            }
        }
        return out;
    }

    private List<Integer> oneFormOfAll(List<Integer> from) throws Stop {
        try {
            return oneForm(from);
        } catch (Stop s) {
            throw new Stop(60, 0, 0);
        }
    }

    private static List<List<Integer>> split(List<Integer> all) {
        List<List<Integer>> labels = new ArrayList<>();
        labels.add(new ArrayList<>());
        for (int p : all) {
            if (p == '.') {
                labels.add(new ArrayList<>());
            } else {
                labels.get(labels.size() - 1).add(p);
            }
        }
        return labels;
    }

    private List<Integer> looked(List<Integer> label, int k) throws Stop {
        if (label.size() >= 4 && label.subList(0, 4).equals(List.of(120, 110, 45, 45))) {
            try {
                label = decoded(label.subList(4, label.size()));
            } catch (Stop s) {
                throw new Stop(30, k, s.what[0] + 4);
            }
            if (label.stream().noneMatch(p -> p > 127)) {
                throw new Stop(32, k, 0);
            }
            List<Integer> form;
            try {
                form = oneForm(label);
            } catch (Stop s) {
                throw new Stop(60, k, 0);
            }
            int same = 0;
            while (same < label.size() && same < form.size() && label.get(same).equals(form.get(same))) {
                same++;
            }
            if (same < label.size() || same < form.size()) {
                throw new Stop(40, k, same);
            }
        }
        if (!label.isEmpty()) {
            rules(label, k);
        }
        return label;
    }

    private void rules(List<Integer> label, int k) throws Stop {
        int size = label.size();
        if (size >= 4 && label.get(2) == '-' && label.get(3) == '-') {
            throw new Stop(41, k, 2);
        }
        if (label.get(0) == '-') {
            throw new Stop(42, k, 0);
        }
        if (label.get(size - 1) == '-') {
            throw new Stop(42, k, size - 1);
        }
        if (ranged(0, label.get(0)) == 1) {
            throw new Stop(43, k, 0);
        }
        for (int i = 0; i < size; i++) {
            if (statusOf(label.get(i)) != 0 || label.get(i) == '.') {
                throw new Stop(44, k, i);
            }
        }
        for (int i = 0; i < size; i++) {
            int p = label.get(i);
            if (p != 8204 && p != 8205 || i > 0 && rankOf(label.get(i - 1)) == 9) {
                continue;
            }
            int before = 0;
            for (int j = i - 1; j >= 0; j--) {
                before = ranged(2, label.get(j));
                if (before != 4) {
                    break;
                }
            }
            int behind = 0;
            for (int j = i + 1; j < size; j++) {
                behind = ranged(2, label.get(j));
                if (behind != 4) {
                    break;
                }
            }
            if (p == 8205 || before != 1 && before != 3 || behind != 2 && behind != 3) {
                throw new Stop(45, k, i);
            }
        }
    }

    private void directions(List<List<Integer>> labels) throws Stop {
        List<Integer> right = List.of(1, 2, 3);
        if (labels.stream().allMatch(l -> l.stream().noneMatch(p -> right.contains(ranged(1, p))))) {
            return;
        }
        for (int k = 0; k < labels.size(); k++) {
            List<Integer> d = new ArrayList<>();
            labels.get(k).forEach(p -> d.add(ranged(1, p)));
            if (d.isEmpty()) {
                continue;
            }
            if (d.get(0) > 2) {
                throw new Stop(46, k, 0);
            }
            boolean left = d.get(0) == 0;
            List<Integer> allowed = left ? List.of(0, 4, 5, 6, 7, 8, 9, 10) : List.of(1, 2, 3, 4, 5, 6, 7, 8, 9, 10);
            for (int i = 0; i < d.size(); i++) {
                if (!allowed.contains(d.get(i))) {
                    throw new Stop(46, k, i);
                }
            }
            int last = d.size() - 1;
            while (d.get(last) == 10) {
                last--;
            }
            if (!(left ? List.of(0, 4) : List.of(1, 2, 3, 4)).contains(d.get(last))) {
                throw new Stop(46, k, last);
            }
            int en = d.indexOf(4);
            int an = d.indexOf(3);
            if (!left && en >= 0 && an >= 0) {
                throw new Stop(46, k, Math.max(en, an));
            }
        }
    }

    private static List<Integer> wide(List<List<Integer>> labels) {
        List<Integer> octets = new ArrayList<>();
        for (int k = 0; k < labels.size(); k++) {
            if (k > 0) {
                octets.add(46);
            }
            labels.get(k).forEach(p -> octets.addAll(octetsOf(p)));
        }
        return octets;
    }

    private static List<Integer> plain(List<List<Integer>> labels) throws Stop {
        List<List<Integer>> out = new ArrayList<>();
        for (List<Integer> label : labels) {
            List<Integer> l = new ArrayList<>(label);
            if (label.stream().anyMatch(p -> p > 127)) {
                l = new ArrayList<>(List.of(120, 110, 45, 45));
                l.addAll(encoded(label));
            }
            out.add(l);
        }
        int last = out.size() - 1;
        for (int k = 0; k <= last; k++) {
            if (out.get(k).isEmpty() && (k != last || last == 0)) {
                throw new Stop(51, k, 0);
            }
        }
        for (int k = 0; k <= last; k++) {
            if (out.get(k).size() > 63) {
                throw new Stop(52, k, 63);
            }
        }
        List<Integer> all = wide(out);
        int counted = all.size() - (out.get(last).isEmpty() && last > 0 ? 1 : 0);
        if (counted == 0 || counted > 253) {
            throw new Stop(53, last, 0);
        }
        return all;
    }

    int fault(int what) {
        return what >= 0 && what < 4 ? fault[what] : -2;
    }

    int octet(int i) {
        return i >= 0 && i < made.size() ? made.get(i) : -1;
    }
}
