import java.util.Arrays;

/** Promises 15 and 16: encode, decode. */
public final class LettersTest {
    private static final Checks C = new Checks();
    private static final Told NEW = new Told();
    private static final int TOP = Checks.TOP;

    /** Rows and what they are ENCODED: the samples of RFC 3492, chapter 7.1, and small ones. */
    private static final String[][] PAIRS = {
        {"", ""},
        {"b\u00fccher", "bcher-kva"},
        {"\u00fc", "tda"},
        {"\u00fc\u00fc", "tdaa"},
        {"abc", "abc-"},
        {"-", "--"},
        {"a-b", "a-b-"},
        {"\u0644\u064a\u0647\u0645\u0627\u0628\u062a\u0643\u0644\u0645\u0648\u0634\u0639\u0631\u0628\u064a\u061f",
            "egbpdaj6bu4bxfgehfvwxn"},
        {"\u4ed6\u4eec\u4e3a\u4ec0\u4e48\u4e0d\u8bf4\u4e2d\u6587", "ihqwcrb4cv8a8dqg056pqjye"},
        {"\u4ed6\u5011\u7232\u4ec0\u9ebd\u4e0d\u8aaa\u4e2d\u6587", "ihqwctvzc91f659drss3x8bo0yb"},
        {"Pro\u010dprost\u011bnemluv\u00ed\u010desky", "Proprostnemluvesky-uyb24dma41a"},
        {"\u05dc\u05de\u05d4\u05d4\u05dd\u05e4\u05e9\u05d5\u05d8\u05dc\u05d0\u05de\u05d3\u05d1\u05e8\u05d9\u05dd"
            + "\u05e2\u05d1\u05e8\u05d9\u05ea", "4dbcagdahymbxekheh6e0a7fei0b"},
        {"\u306a\u305c\u307f\u3093\u306a\u65e5\u672c\u8a9e\u3092\u8a71\u3057\u3066\u304f\u308c\u306a\u3044\u306e"
            + "\u304b", "n8jok5ay5dzabd5bym9f0cm5685rrjetr6pdxa"},
        {"Porqu\u00e9nopuedensimplementehablarenEspa\u00f1ol", "PorqunopuedensimplementehablarenEspaol-fmd56a"},
        {"T\u1ea1isaoh\u1ecdkh\u00f4ngth\u1ec3ch\u1ec9n\u00f3iti\u1ebfngVi\u1ec7t",
            "TisaohkhngthchnitingVit-kjcr8268qyxafd2f1b9g"},
        {"3\u5e74B\u7d44\u91d1\u516b\u5148\u751f", "3B-ww4c5e180e575a65lsy2b"},
        {"\u5b89\u5ba4\u5948\u7f8e\u6075-with-SUPER-MONKEYS", "-with-SUPER-MONKEYS-pc58ag80a8qai00g7n9n"},
        {"Hello-Another-Way-\u305d\u308c\u305e\u308c\u306e\u5834\u6240", "Hello-Another-Way--fc4qua05auwb3674vfr0b"},
        {"\u3072\u3068\u3064\u5c4b\u6839\u306e\u4e0b2", "2-u9tlzr9756bt3uc0v"},
        {"Maji\u3067Koi\u3059\u308b5\u79d2\u524d", "MajiKoi5-783gue6qz075azm5e"},
        {"\u30d1\u30d5\u30a3\u30fcde\u30eb\u30f3\u30d0", "de-jg4avhby1noc0d"},
        {"\u305d\u306e\u30b9\u30d4\u30fc\u30c9\u3067", "d9juau41awczczp"},
        {"-> $1.00 <-", "-> $1.00 <--"},
    };

    /**
     * Points alone, and what they are ENCODED, by another program: the last and the first of one, two, three, four and
     * five digits, the digits at the ends of a .. z and 0 .. 9, and the edges of the POINTS.
     */
    private static final String[][] ALONE = {{"128", "a"}, {"129", "ba"}, {"130", "ca"}, {"153", "za"}, {"154", "0a"},
        {"162", "8a"}, {"163", "9a"}, {"164", "bba"}, {"165", "cba"}, {"198", "9ba"}, {"199", "bca"}, {"32013", "99z"},
        {"32014", "bb0a"}, {"55295", "hb9b"}, {"57344", "0y0c"}, {"350513", "999z"}, {"350514", "bb00a"},
        {"1114111", "dn32g"}};

    /**
     * Rows and what they are ENCODED, by another program: with numbers at t - 1, t and t + 1, with k - bias of 3, 24 to
     * 28, with a first delta of 6300 and 6299 that is / 700, and with delta of 454 to 457 once and again when the bias is
     * ADAPTED, the first time and later.
     */
    private static final String[][] AT_THE_EDGES = {
        {"6441 6428", "9efza"}, {"6440 6427", "8efz"}, {"6439 6427", "8efx"}, {"6440 6428", "9efx"},
        {"18680 10949 305 170744", "cfa104sw6s2u04c"},
        {"160106 202780 499875", "2u4ks25vku19a"},
        {"528982 255940 807942", "622sn021k5flv"},
        {"686 52439 698", "7pay8222l"},
        {"949876 501136 302 846366", "8ea18721hgqfyw8wj"},
        {"59734 42684 51506 269847 122", "z-1q3es62gk40ahv17f"},
        {"260 10872", "1da833s"},
        {"46750 4626", "sxd1635f"},
        {"449 144", "qa32d"},
        {"457447 86580", "cu4e1040v"},
        {"892 217 565", "tca01e81a"},
        {"638 20303 332", "3fa52du99n"},
        {"280870 97 616", "a-61a47815f"},
        {"4194 627718 975270", "gld26185jgflya"},
        {"97 98 79866", "ab-0j9q"},
        {"9452 17460 168", "fba186poov"},
        {"566 122 280462", "z-bza30805f"},
        {"502 850232 492320", "yka05749gfsbza"},
        {"98 623 8591", "b-l2a810v"},
        {"21902 664 15358", "lpa2050a49p"},
        {"668 370 440 799344", "6ga4l6zj3297g"},
        {"46318 752403 503094 9898", "f8hz513ciw91dpcjx"},
        {"98 842217 540832 1112566", "b-o169f8078ic1hz"},
        {"18336 42949 32040 338982", "i4o238kbz0anw59f"},
        {"288 501 501 98", "b-fja35da"},
        {"780301 98 64347 98 122", "bbz-my3sd3933h"},
        {"122 394 395 177 870371", "z-3ca46dea599064b"},
        {"323850 888850 60827 668823 129", "ba9052j2ex1aspe8ancxza"},
        {"153 14013 335 122 122", "zz-fca24en68r"},
        {"31331 22927 12990 97 816563", "a-88u623lpp1adb030a"},
        {"498 36689 489 635387 505", "lkarw8485llx29h"},
        {"1046916 98 97 63831 122", "baz-o91sg6600m"},
        {"784210 632172 122 428 270995", "z-gra51822fkmy9aytzr"},
        {"98 178 272155 458 682", "b-5ca45fvz25989a"},
        {"349 122 348 170 98", "zb-wda52eda"},
        {"57344 356527 153 36134 582396", "za6703e766bm6y0dc6l0a"},
        {"184 466 500 465 9694", "vba67cc0l982q"},
    };

    public static void main(String[] args) {
        encodedAndDecoded();
        encodedAlone();
        encodedAtTheEdges();
        encodedBelow128();
        encodedTo300();
        encodedFull();
        decodedCapitals();
        decodedFromTheLastDash();
        decodedTo300();
        decodedPlaces();
        faultOfNoneBelow128();
        faultOfNoDigit();
        faultOfTheEnd();
        faultAbove31Bits();
        faultOfNoPoint();
        refusedDecodeChangesNothing();
        C.end();
    }

    private static int[] row(int... points) {
        return points;
    }

    private static int[] rowOf(String numbers) {
        return Arrays.stream(numbers.split(" ")).mapToInt(Integer::parseInt).toArray();
    }

    private static void dueBoth(int[] from, String letters) {
        C.dueRow("15: encode() of " + Arrays.toString(from), NEW.copy().row(from), Names::encode,
                Checks.points(letters));
        C.dueRow("16: decode() of " + letters, NEW.copy().row(Checks.points(letters)), Names::decode, from);
    }

    private static void dueDecoded(String letters, int... want) {
        C.dueRow("16: decode() of " + letters, NEW.copy().row(Checks.points(letters)), Names::decode, want);
    }

    private static void dueFault(String letters, int place) {
        C.due("16: decode() of " + letters, NEW.copy().row(Checks.points(letters)), Names::decode, -10 - place);
    }

    // 15: "The row at hand is ENCODED, and is that then: how many points. -4 FULL, or more than 300."

    private static void encodedAndDecoded() {
        for (String[] pair : PAIRS) {
            dueBoth(Checks.points(pair[0]), pair[1]);
        }
    }

    private static void encodedAlone() {
        for (String[] pair : ALONE) {
            int p = Integer.parseInt(pair[0]);
            dueBoth(row(p), pair[1]);
            dueBoth(row(p, p), pair[1] + "a");
        }
        dueBoth(row(128, TOP), "a08093t");
        dueBoth(row(TOP, 128), "a97093t");
    }

    private static void encodedAtTheEdges() {
        for (String[] pair : AT_THE_EDGES) {
            dueBoth(rowOf(pair[0]), pair[1]);
        }
    }

    /** "the points below 128 in order; a - if there is one at least" */
    private static void encodedBelow128() {
        dueBoth(row(), "");
        dueBoth(row(0), "\u0000-");
        dueBoth(row(127), "\u007f-");
        dueBoth(row(128), "a");
        dueBoth(row(127, 128), "\u007f-ba");
        dueBoth(row(128, 127), "\u007f-a");
        dueBoth(row('a', 'b', 128), "ab-ca");
        dueBoth(row('a', 128, 'b'), "ab-ba");
        dueBoth(row(128, 'a', 'b'), "ab-a");
        dueBoth(row('b', 'A', '.', '!'), "bA.!-");
        dueBoth(row('-', 128), "--ba");
        dueBoth(row(128, '-'), "--a");
        dueBoth(row('-'), "--");
        dueBoth(row('-', '-'), "---");
    }

    private static Told read(String s) {
        return NEW.copy().text(s).then(Names::read);
    }

    private static void encodedTo300() {
        C.dueRow("15: encode() of 298 to 299", read("a".repeat(298)), Names::encode,
                Checks.points("a".repeat(298) + "-"));
        C.dueRow("15: encode() of 299 to 300", read("a".repeat(299)), Names::encode,
                Checks.points("a".repeat(299) + "-"));
        C.refused("15: encode() of 300 to 301", read("a".repeat(300)), Names::encode, -4);
        C.dueRow("15: 298 and a digit, to 300", read("a".repeat(296) + "\u0080"), Names::encode,
                Checks.points("a".repeat(296) + "-" + letters(number(296))));
        dueEncodedSize(297, "\u0080", 2, 300);
        dueEncodedSize(298, "\u0080", 2, -4);
        dueEncodedSize(298, "\u0080", 1, 300);
        dueEncodedSize(299, "\u0080", 1, -4);
        Names x = NEW.copy().row(Checks.many(298, 252)).fresh();
        C.due("15: encode() of 298 of one point", x.encode(), 300);
        C.due("15: its first digits", row(x.point(0), x.point(1), x.point(2), x.point(3), x.point(299)),
                't', 'd', 'a', 'a', 'a');
        C.due("16: and back", x.decode(), 298);
        C.due("16: is what it was", x.point(297), 252);
        C.refused("15: encode() of 299 of one point", NEW.copy().row(Checks.many(299, 252)), Names::encode, -4);
        C.refused("15: encode() of 300 of one point", NEW.copy().row(Checks.many(300, 252)), Names::encode, -4);
        C.refused("15: encode() of far more", NEW.copy().row(Checks.join(Checks.many(60, 128), Checks.many(240, TOP))),
                Names::encode, -4);
    }

    /** Letters a, and a point 128 before them all, so that the number is 0, or behind the first one: it is 1. */
    private static void dueEncodedSize(int letters, String wide, int digits, int want) {
        String s = digits == 1 ? wide + "a".repeat(letters) : "a" + wide + "a".repeat(letters - 1);
        String what = "15: encode() of " + letters + " letters and a point";
        if (want < 0) {
            C.refused(what, read(s), Names::encode, want);
        } else {
            C.due(what, read(s), Names::encode, want);
        }
    }

    /** The greatest of all numbers within 300 points is far below 2^31: nothing is FULL. */
    private static void encodedFull() {
        String s = "a".repeat(290) + Checks.of(TOP);
        C.dueRow("15: a great number", read(s), Names::encode, Checks.points("a".repeat(290) + "-ib2475x"));
        C.due("16: and back", read(s).then(Names::encode), Names::decode, 291);
        Names x = read("ab").fresh();
        x.encode();
        C.due("15: THE TEXT is as it was", x.read(), 2);
        x.decode();
        x.decode();
        C.due("16: THE TEXT is as it was", x.read(), 2);
    }

    // 16: "The row at hand is DECODED, and is that then: how many points; -10 less the place of a fault (FULL, too)."

    /** "digits, A .. Z like a .. z" */
    private static void decodedCapitals() {
        for (int d = 0; d < 26; d++) {
            String small = "" + (char) ('a' + d);
            String big = "" + (char) ('A' + d);
            int p = d == 0 ? 128 : 127 + d + 1;
            dueDecoded(small + (d == 0 ? "" : "a"), p);
            dueDecoded(big + (d == 0 ? "" : "A"), p);
        }
        dueDecoded("0a", 154);
        dueDecoded("9A", 163);
        dueDecoded("bCHER-KVA", Checks.points("b\u00fcCHER"));
        dueDecoded("TDAA", 252, 252);
        dueDecoded("tDaA", 252, 252);
        dueDecoded("A-A", 128, 'A');
        dueDecoded("99Z", 32013);
    }

    /** "those before the last - (if there is one, and it is not the first point) are the beginning" */
    private static void decodedFromTheLastDash() {
        dueDecoded("");
        dueDecoded("a", 128);
        dueDecoded("a-", 'a');
        dueDecoded("a-a", 128, 'a');
        dueDecoded("a--", 'a', '-');
        dueDecoded("a-b-", 'a', '-', 'b');
        dueDecoded("a-b-a", 128, 'a', '-', 'b');
        dueDecoded("--", '-');
        dueDecoded("--a", 128, '-');
        dueDecoded("---", '-', '-');
        dueDecoded("--tda", 190, '-');
        dueDecoded("!-a", 128, '!');
        dueFault("-", 0);
        dueFault("-a", 0);
        dueFault("-tda", 0);
        dueFault("a-!", 2);
        dueFault("a-b", 3);
    }

    private static void decodedTo300() {
        String s = "a".repeat(299);
        C.dueRow("16: 299 and a -", read(s + "-"), Names::decode, Checks.many(299, 'a'));
        C.dueRow("16: 300 digits", read(s + "a"), Names::decode, Checks.many(300, 128));
        C.dueRow("16: 298, a - and a digit", read("a".repeat(298) + "-a"), Names::decode,
                Checks.join(row(128), Checks.many(298, 'a')));
        C.dueRow("16: a - and 298 digits", read("b-" + "a".repeat(298)), Names::decode,
                Checks.join(Checks.many(298, 128), row('b')));
        C.refused("16: no digit at the end of 300", read(s + "!"), Names::decode, -10 - 299);
        C.refused("16: the end of 300", read(s + "0"), Names::decode, -10 - 300);
        C.dueRow("16: z ends a number there", read(s + "z"), Names::decode,
                Checks.join(Checks.many(24, 128), row(129), Checks.many(275, 128)));
    }

    /** "n grows by i / (length + 1), i is i % (length + 1); n comes in at i, i grows by 1" */
    private static void decodedPlaces() {
        dueDecoded("bc-uia", Checks.points("\u00e4bc"));
        dueDecoded("abc-a", 128, 'a', 'b', 'c');
        dueDecoded("abc-ba", 'a', 128, 'b', 'c');
        dueDecoded("abc-ca", 'a', 'b', 128, 'c');
        dueDecoded("abc-da", 'a', 'b', 'c', 128);
        dueDecoded("abc-ea", 129, 'a', 'b', 'c');
        dueDecoded("aa", 128, 128);
        dueDecoded("ab", 129, 128);
        dueDecoded("ac", 128, 129);
        dueDecoded("ad", 130, 128);
        dueDecoded("baa", 129, 129);
    }

    /** "at the first point that is none below 128 (before all others)" */
    private static void faultOfNoneBelow128() {
        for (int p : row(128, 129, 255, 1000, TOP)) {
            String s = Checks.of(p);
            dueFault(s, 0);
            dueFault("a" + s, 1);
            dueFault("-" + s, 1);
            dueFault("!" + s, 1);
            dueFault("!!" + s + "!" + s, 2);
            dueFault(s + "-tda", 0);
            dueFault("a" + s + "-tda", 1);
            dueFault("a-99999999" + s, 10);
            dueFault("a-td" + s, 4);
            dueFault("a" + s + s, 1);
        }
        dueDecoded("\u007f-", 127);
        dueDecoded("\u007f-a", 128, 127);
        dueFault("\u007f", 0);
        C.due("16: none below 128 as the last of 300", read("a".repeat(299) + "\u0080"), Names::decode, -10 - 299);
    }

    private static void faultOfNoDigit() {
        for (char c : "/:@[`{ !.~\u0000\u007f".toCharArray()) {
            dueFault("" + c, 0);
            dueFault("a" + c, 1);
            dueFault("b" + c, 1);
            dueFault("td" + c, 2);
            dueFault("b-" + c, 2);
            dueFault("b-t" + c + "a", 3);
            dueFault("" + c + c, 0);
        }
        for (char c : "azAZ09".toCharArray()) {
            C.due("16: a digit is " + c, NEW.copy().row(c, 'a'), Names::decode, "aA".indexOf(c) >= 0 ? 2 : 1);
        }
    }

    /** "or at the row's end, if a digit had to come" */
    private static void faultOfTheEnd() {
        dueFault("b", 1);
        dueFault("B", 1);
        dueFault("9", 1);
        dueFault("bb", 2);
        dueFault("td", 2);
        dueFault("99", 2);
        dueFault("990", 3);
        dueDecoded("99z", 32013);
        dueFault("tda0", 4);
        // The second number's first t is 26, so 25 ends it: i is 26, that is 13 and 0 of two places.
        dueDecoded("tdaz", 252 + 13, 252);
        dueFault("a-b", 3);
        dueFault("bcher-kv", 8);
        dueFault("bcher-k", 7);
    }

    /** "at the digit with which i or w would be above 2^31 - 1" */
    private static void faultAbove31Bits() {
        dueFault("99999999", 7);
        dueFault("a-99999999", 9);
        dueFault("999999999999999999999999", 7);
        int[] most = number(Integer.MAX_VALUE);
        dueFault(letters(most), most.length - 1);
        dueFault(letters(most) + "a", most.length - 1);
        int[] more = number(Integer.MAX_VALUE + 1L);
        dueFault(letters(more) + "a", more.length - 1);
        // Here i is there before the number's last digit, which is a 0: 2^31 - 1 may stand, 2^31 may not.
        C.due("16: two numbers", NEW.copy().row(Checks.points("aaaa-r36nx9200d")), Names::decode, 6);
        dueFault("aaaa-r36nx9200dr4cx096a", 22);
        dueFault("aaaa-r36nx9200ds4cx096a", 21);
    }

    /** "at the last digit of a number, if n would not be one of the POINTS" */
    private static void faultOfNoPoint() {
        dueDecoded(letters(number(TOP - 128)), TOP);
        dueFault(letters(number(TOP + 1 - 128)), 4);
        dueFault(letters(number(TOP + 1 - 128)) + "a", 4);
        dueDecoded(letters(number(55295 - 128)), 55295);
        dueFault(letters(number(55296 - 128)), 3);
        dueFault(letters(number(57343 - 128)), 3);
        dueDecoded(letters(number(57344 - 128)), 57344);
        // The second number begins where the first one ended: 0 is one more of the same, 1 the next point before it.
        dueDecoded("hb9ba", 55295, 55295);
        dueFault("hb9bb", 4);
        dueDecoded("dn32ga", TOP, TOP);
        dueFault("dn32gba", 6);
        dueFault("a-" + letters(number(2L * (55296 - 128))), 5);
        dueFault("a-" + letters(number(2L * (57343 - 128) + 1)), 5);
        dueDecoded("a-" + letters(number(2L * (57344 - 128))), 57344, 'a');
        dueDecoded("a-" + letters(number(2L * (55295 - 128) + 1)), 'a', 55295);
        dueDecoded("a-" + letters(number(2L * (TOP - 128) + 1)), 'a', TOP);
        dueFault("a-" + letters(number(2L * (TOP - 128) + 2)), 6);
    }

    private static void refusedDecodeChangesNothing() {
        Told told = NEW.copy().text("ab");
        for (String s : new String[] {"-a", "a!", "td", "99999999", "hb9bb", "dn32gba", "a\u0080", "\u0080"}) {
            Names x = told.copy().row(Checks.points(s)).fresh();
            C.refused("16: decode() of " + s, told.copy().row(Checks.points(s)), Names::decode, x.decode());
            C.due("16: the row as it was", Checks.row(x), Checks.points(s));
        }
    }

    /** The digits of a first number: bias is 72. */
    private static int[] number(long q) {
        int[] digits = new int[20];
        int n = 0;
        for (int k = 36;; k += 36) {
            int t = k <= 72 ? 1 : 26;
            if (q < t) {
                digits[n++] = digit((int) q);
                return Arrays.copyOf(digits, n);
            }
            digits[n++] = digit((int) (t + (q - t) % (36 - t)));
            q = (q - t) / (36 - t);
        }
    }

    private static int digit(int d) {
        return d < 26 ? 'a' + d : '0' + d - 26;
    }

    private static String letters(int[] points) {
        return Checks.of(points);
    }
}
