/** Promises 15 and 16: encode, decode. */
public final class LettersTest {
    private static final Checks C = new Checks();
    private static final int TOP = 1114111;

    /** Rows and what they are ENCODED: the samples of RFC 3492, chapter 7.1, and small ones. */
    private static final String[][] PAIRS = {
        {"", ""},
        {"b\u00fccher", "bcher-kva"},
        {"\u00fc", "tda"},
        {"\u00fc\u00fc", "tdaa"},
        {"abc", "abc-"},
        {"-", "--"},
        {"a-b", "a-b-"},
        {"\u0644\u064a\u0647\u0645\u0627\u0628\u062a\u0643\u0644\u0645\u0648\u0634\u0639\u0631\u0628\u064a\u061f",
            "egbpdaj6bu4bxfgehfvwxn"},
        {"\u4ed6\u4eec\u4e3a\u4ec0\u4e48\u4e0d\u8bf4\u4e2d\u6587", "ihqwcrb4cv8a8dqg056pqjye"},
        {"\u4ed6\u5011\u7232\u4ec0\u9ebd\u4e0d\u8aaa\u4e2d\u6587", "ihqwctvzc91f659drss3x8bo0yb"},
        {"Pro\u010dprost\u011bnemluv\u00ed\u010desky", "Proprostnemluvesky-uyb24dma41a"},
        {"\u05dc\u05de\u05d4\u05d4\u05dd\u05e4\u05e9\u05d5\u05d8\u05dc\u05d0\u05de\u05d3\u05d1\u05e8\u05d9\u05dd"
            + "\u05e2\u05d1\u05e8\u05d9\u05ea", "4dbcagdahymbxekheh6e0a7fei0b"},
        {"\u306a\u305c\u307f\u3093\u306a\u65e5\u672c\u8a9e\u3092\u8a71\u3057\u3066\u304f\u308c\u306a\u3044\u306e"
            + "\u304b", "n8jok5ay5dzabd5bym9f0cm5685rrjetr6pdxa"},
        {"Porqu\u00e9nopuedensimplementehablarenEspa\u00f1ol", "PorqunopuedensimplementehablarenEspaol-fmd56a"},
        {"T\u1ea1isaoh\u1ecdkh\u00f4ngth\u1ec3ch\u1ec9n\u00f3iti\u1ebfngVi\u1ec7t",
            "TisaohkhngthchnitingVit-kjcr8268qyxafd2f1b9g"},
        {"3\u5e74B\u7d44\u91d1\u516b\u5148\u751f", "3B-ww4c5e180e575a65lsy2b"},
        {"\u5b89\u5ba4\u5948\u7f8e\u6075-with-SUPER-MONKEYS", "-with-SUPER-MONKEYS-pc58ag80a8qai00g7n9n"},
        {"Hello-Another-Way-\u305d\u308c\u305e\u308c\u306e\u5834\u6240", "Hello-Another-Way--fc4qua05auwb3674vfr0b"},
        {"\u3072\u3068\u3064\u5c4b\u6839\u306e\u4e0b2", "2-u9tlzr9756bt3uc0v"},
        {"Maji\u3067Koi\u3059\u308b5\u79d2\u524d", "MajiKoi5-783gue6qz075azm5e"},
        {"\u30d1\u30d5\u30a3\u30fcde\u30eb\u30f3\u30d0", "de-jg4avhby1noc0d"},
        {"\u305d\u306e\u30b9\u30d4\u30fc\u30c9\u3067", "d9juau41awczczp"},
        {"-> $1.00 <-", "-> $1.00 <--"},
    };

    public static void main(String[] args) {
        pairs();
        encodeRoom();
        decodeOthers();
        decodeFaults();
        decodeTooGreat();
        C.end();
    }

    private static void pairs() {
        WideNames x = new WideNames();
        for (String[] pair : PAIRS) {
            int[] row = Checks.points(pair[0]);
            int[] letters = Checks.points(pair[1]);
            Checks.row(x, row);
            C.due("15: encode() of " + pair[0], x.encode(), letters.length);
            C.due("15: encoded " + pair[0], Checks.row(x), letters);
            C.due("16: decode() of " + pair[1], x.decode(), row.length);
            C.due("16: decoded " + pair[1], Checks.row(x), row);
        }
    }

    private static void encodeRoom() {
        WideNames x = Checks.rowOf(299, 'a');
        C.due("15: encode() to 300", x.encode(), 300);
        C.due("15: encode() to 301", x.encode(), -4);
        C.due("15: the row as it was", Checks.row(x), Checks.join(Checks.many(299, 'a'), new int[] {'-'}));
        x = Checks.rowOf(297, 252);
        C.due("15: encode() of 297 of one point", x.encode(), 299);
        C.due("16: and back", x.decode(), 297);
        x = Checks.rowOf(298, 252);
        C.due("15: encode() of 298 of one point", x.encode(), 300);
        C.due("16: and back", x.decode(), 298);
        C.due("16: is what it was", Checks.row(x), Checks.many(298, 252));
        x = Checks.rowOf(299, 252);
        C.due("15: encode() of 299 of one point", x.encode(), -4);
        C.due("15: the row as it was", Checks.row(x), Checks.many(299, 252));
        x = Checks.row(new WideNames(), Checks.join(Checks.many(60, 128), Checks.many(240, TOP)));
        C.due("15: encode() of 300", x.encode(), -4);
        x = Checks.row(new WideNames(), 128, TOP);
        int n = x.encode();
        C.due("15: encode() of the first and the last", n > 0);
        C.due("16: and back", x.decode(), 2);
        C.due("16: is what it was", Checks.row(x), 128, TOP);
    }

    private static int[] decodeOf(String letters) {
        WideNames x = Checks.row(new WideNames(), letters);
        int answer = x.decode();
        if (answer < 0) {
            C.due("16: the row as it was", Checks.row(x), Checks.points(letters));
            return new int[] {answer};
        }
        C.due("16: how many points", answer, Checks.row(x).length);
        return Checks.row(x);
    }

    private static void decodeOthers() {
        C.due("16: capitals", decodeOf("bCHER-KVA"), Checks.points("b\u00fcCHER"));
        C.due("16: all capitals", decodeOf("TDAA"), Checks.points("\u00fc\u00fc"));
        C.due("16: A", decodeOf("A"), 128);
        C.due("16: Z", decodeOf("ZZZZZA"), decodeOf("zzzzza"));
        C.due("16: nothing behind the last -", decodeOf("a-b-"), Checks.points("a-b"));
        C.due("16: - before the last -", decodeOf("--"), Checks.points("-"));
        C.due("16: - before the last -", decodeOf("--tda"), 190, '-');
        C.due("16: in at the beginning", decodeOf("bc-uia"), Checks.points("\u00e4bc"));
    }

    private static void decodeFaults() {
        C.due("16: - alone", decodeOf("-"), -10);
        C.due("16: - first", decodeOf("-tda"), -10);
        C.due("16: no digit", decodeOf("td."), -12);
        C.due("16: no digit first", decodeOf(" tda"), -10);
        C.due("16: no digit, behind the last -", decodeOf("b-!"), -12);
        C.due("16: not what is about the digits", decodeOf("/") [0] + decodeOf(":")[0], -20);
        C.due("16: not what is about the letters", decodeOf("`")[0] + decodeOf("{")[0], -20);
        C.due("16: not what is about the capitals", decodeOf("@")[0] + decodeOf("[")[0], -20);
        C.due("16: a digit had to come", decodeOf("td"), -12);
        C.due("16: a digit had to come, behind the last -", decodeOf("bcher-kv"), -18);
        C.due("16: none below 128, before all others", decodeOf("!!\u00fc"), -12);
        C.due("16: none below 128, in the beginning", decodeOf("\u0080-tda"), -10);
        C.due("16: none below 128, the first", decodeOf("a\u00fc\u00fc!"), -11);
    }

    private static void decodeTooGreat() {
        C.due("16: i too great", decodeOf("99999999"), -10 - 7);
        C.due("16: i too great, behind the last -", decodeOf("a-99999999")[0], decodeOf("99999999")[0] - 2);
        int[] last = encoded(TOP);
        C.due("16: the last of the points", decodeOf(letters(last)), TOP);
        C.due("16: above the points", decodeOf(letters(number(TOP + 1 - 128))), -10 - (last.length - 1));
        C.due("16: the last before the gap", decodeOf(letters(number(55295 - 128))), 55295);
        int[] gap = number(55296 - 128);
        C.due("16: the first in the gap", decodeOf(letters(gap)), -10 - (gap.length - 1));
        C.due("16: the last in the gap", decodeOf(letters(number(57343 - 128))), -10 - (gap.length - 1));
        C.due("16: the first behind the gap", decodeOf(letters(number(57344 - 128))), 57344);
        int[] most = number(Integer.MAX_VALUE);
        C.due("16: i = 2^31 - 1", decodeOf(letters(most)), -10 - (most.length - 1));
        C.due("16: i = 2^31 - 1, and more letters", decodeOf(letters(most) + "a"), -10 - (most.length - 1));
        // Here i is there before the number's last digit, which is a 0: 2^31 - 1 may stand, 2^31 may not.
        C.due("16: two numbers", decodeOf("aaaa-r36nx9200d").length, 6);
        C.due("16: i = 2^31 - 1 before the last digit", decodeOf("aaaa-r36nx9200dr4cx096a"), -10 - 22);
        C.due("16: i = 2^31 before the last digit", decodeOf("aaaa-r36nx9200ds4cx096a"), -10 - 21);
        int[] more = number(Integer.MAX_VALUE + 1L);
        C.due("16: i = 2^31", decodeOf(letters(more) + "a"), -10 - (more.length - 1));
    }

    private static int[] encoded(int... points) {
        WideNames x = Checks.row(new WideNames(), points);
        x.encode();
        return Checks.row(x);
    }

    /** The digits of a first number: bias is 72. */
    private static int[] number(long q) {
        int[] digits = new int[20];
        int n = 0;
        for (int k = 36;; k += 36) {
            int t = k <= 72 ? 1 : Math.min(26, k - 72);
            if (q < t) {
                digits[n++] = digit((int) q);
                return java.util.Arrays.copyOf(digits, n);
            }
            digits[n++] = digit((int) (t + (q - t) % (36 - t)));
            q = (q - t) / (36 - t);
        }
    }

    private static int digit(int d) {
        return d < 26 ? 'a' + d : '0' + d - 26;
    }

    private static String letters(int[] points) {
        return new String(points, 0, points.length);
    }
}
