/** Promises 17 to 19: make, fault, octet. */
public final class DomainsTest {
    private static final Checks C = new Checks();
    private static final String UE = "\u00fc";
    private static final String HEBREW = "\u05d0\u05d1";

    public static void main(String[] args) {
        ordinary();
        octetsOfPoints();
        faultsOfRead();
        mapping();
        mappingRoom();
        formOfAll();
        decoding();
        decodedForm();
        dashes();
        marks();
        notValid();
        joiners();
        directionsOfFirst();
        directionsOfOthers();
        plainLabels();
        plainSizes();
        wideSizes();
        whatStays();
        C.end();
    }

    private static void ordinary() {
        WideNames x = new WideNames();
        C.dueMade(x, "example.com", true, "example.com", 2);
        C.dueMade(x, "EXAMPLE.Com.", true, "example.com.", 3);
        C.dueMade(x, "b" + UE + "cher.de", true, "xn--bcher-kva.de", 2);
        C.dueMade(x, "b" + UE + "cher.de", false, "b" + UE + "cher.de", 2);
        C.dueMade(x, "XN--BCHER-kva.de", false, "b" + UE + "cher.de", 2);
        C.dueMade(x, "xn--bcher-kva.xn--tda", true, "xn--bcher-kva.xn--tda", 2);
        C.dueMade(x, "a." + UE + ".b." + UE + UE, true, "a.xn--tda.b.xn--tdaa", 4);
        C.dueMade(x, "\ud83d\ude00", false, "\ud83d\ude00", 1);
        C.dueMade(x, "a-b.c--d", true, "a-b.c--d", 2);
        C.dueMade(x, "", false, "", 1);
        C.dueMade(x, ".", false, ".", 2);
        C.dueMade(x, "..a.", false, "..a.", 4);
        C.due("18: fault(4)", x.fault(4), -2);
        C.due("18: fault(-1)", x.fault(-1), -2);
        C.due("18: fault(the least int)", x.fault(Integer.MIN_VALUE), -2);
        C.due("19: octet(0)", x.octet(0), '.');
        C.due("19: octet(-1)", x.octet(-1), -1);
        C.due("19: octet(4)", x.octet(4), -1);
        C.due("19: octet(the greatest int)", x.octet(Integer.MAX_VALUE), -1);
    }

    /** The first and the last points of one, two, three and four octets. */
    private static void octetsOfPoints() {
        WideNames x = new WideNames();
        x.status(127, 127, 0);
        C.dueMade(x, "\u007f\u0080", false, "\u007f\u0080", 1);
        C.dueMade(x, "\u007f", true, "\u007f", 1);
        C.dueFault(x, "xn--\u007f-", false, 32, 0, 0, 0);
        C.dueMade(x, "\u0080", true, "xn--a", 1);
        int[] edges = {128, 129, 191, 192, 2047, 2048, 2049, 4095, 4096, 8191, 8192, 55295, 57344, 61440, 65535, 65536,
            65537, 131071, 196608, 262143, 262144, 262145, 524287, 524288, 786432, 1048575, 1048576, 1114111};
        for (int p : edges) {
            C.dueMade(x, of(p), false, of(p), 1);
            C.dueMade(x, of('a', p), true, coded('a', p), 1);
            C.dueMade(x, coded('a', p), false, of('a', p), 1);
        }
    }

    private static void faultsOfRead() {
        WideNames x = new WideNames();
        C.dueMade(x, "a.b", false, "a.b", 2);
        Checks.text(x, 'a', '.', 195);
        C.due("17: a fault of READ", x.make(true), -20);
        C.due("18: its place", Checks.faults(x), 10, 0, 3, 0);
        Checks.text(x, Checks.join(Checks.many(300, 'a'), new int[] {255}));
        C.due("17: a fault instead of the 301st", x.make(false), -20);
        C.due("18: its place", Checks.faults(x), 10, 0, 300, 0);
        Checks.text(x, Checks.join(Checks.many(301, '!'), new int[] {255}));
        C.due("17: the 301st before a fault", x.make(false), -70);
        C.due("18: its place", Checks.faults(x), 60, 0, 300, 0);
        C.due("19: octets of before", Checks.made(x), 'a', '.', 'b');
        Checks.text(x, Checks.many(300, 'a'));
        C.due("17: 300 points", x.make(false), 300);
    }

    private static void mapping() {
        WideNames x = new WideNames();
        C.dueFault(x, "a.b!c.,", false, 20, 0, 3, 0);
        C.dueFault(x, "xn--a.b!", true, 20, 0, 7, 0);
        x.status(173, 173, 1);
        C.dueMade(x, "a\u00adb.\u00ad", false, "ab.", 2);
        C.dueMade(x, "\u00adX\u00adn\u00ad--tda", false, UE, 1);
        Checks.row(x, "ss");
        x.map(223);
        C.dueMade(x, "Stra\u00dfe", true, "strasse", 1);
        Checks.row(x, ".");
        x.map(12290);
        C.dueMade(x, "a\u3002b", true, "a.b", 2);
        Checks.row(x, "!");
        x.map(1000);
        C.dueFault(x, "ab\u03e8", false, 44, 0, 2, 0);
        Checks.row(x, "Q");
        x.map(1001);
        C.dueFault(x, "c.b\u03e9", false, 44, 1, 1, 1);
        x.status('!', '!', 0);
        C.dueMade(x, "ab\u03e8!", false, "ab!!", 1);
        x.status('.', '.', 3);
        C.dueFault(x, "ab.c", false, 20, 0, 2, 0);
    }

    private static void mappingRoom() {
        WideNames x = Checks.row(new WideNames(), "abcd");
        x.map('a');
        x.status('!', '!', 3);
        C.dueFault(x, "a".repeat(75) + "ec", false, 60, 0, 75, 0);
        C.dueFault(x, "a".repeat(76), false, 60, 0, 75, 0);
        C.dueFault(x, "e" + "a".repeat(75), false, 60, 0, 75, 0);
        C.dueFault(x, "a" + "e".repeat(297), false, 60, 0, 297, 0);
        C.dueFault(x, "a" + "e".repeat(297) + "!", false, 60, 0, 297, 0);
        C.dueFault(x, "a!" + "e".repeat(297), false, 20, 0, 1, 0);
        x.status('a', 'a', 0);
        Checks.row(x, "zzzz");
        x.map(228);
        C.dueMade(x, "\u00e4".repeat(75), false, "zzzz".repeat(75), 1);
        x.status('f', 'f', 1);
        C.dueMade(x, "\u00e4".repeat(75) + "ff", false, "zzzz".repeat(75), 1);
        C.dueFault(x, "\u00e4".repeat(75) + "ffa", false, 60, 0, 77, 0);
    }

    private static WideNames withParts() {
        WideNames x = new WideNames();
        x.rank(768, 230);
        x.rank(803, 220);
        x.parts(7000, 97, 768, false);
        x.parts(7001, 97, 803, false);
        x.parts(7002, 7001, 768, false);
        x.parts(7003, 98, 768, true);
        return x;
    }

    private static String of(int... points) {
        return new String(points, 0, points.length);
    }

    private static void formOfAll() {
        WideNames x = withParts();
        C.dueMade(x, "A\u0300." + of(7000, 803), false, of(7000) + "." + of(7002), 2);
        C.dueMade(x, of(7003), false, "b\u0300", 1);
        C.dueMade(x, of(4352, 4449, '.', 44032, 4520), false, of(44032, '.', 44033), 2);
        C.dueMade(x, of(44033).repeat(100), false, of(44033).repeat(100), 1);
        C.dueFault(x, "a." + of(44033).repeat(100), false, 60, 0, 0, 0);
        x.parts(7004, '.', 768, false);
        C.dueMade(x, "a.\u0300b", false, "a" + of(7004) + "b", 1);
        x.parts(7005, 99, '.', true);
        C.dueMade(x, of(7005) + "d", false, "c.d", 2);
    }

    private static String coded(int... points) {
        WideNames x = Checks.row(new WideNames(), points);
        x.encode();
        return "xn--" + of(Checks.row(x));
    }

    private static void decoding() {
        WideNames x = new WideNames();
        C.dueFault(x, "a.xn--", false, 32, 1, 0, 1);
        C.dueFault(x, "xn--abc-", false, 32, 0, 0, 0);
        C.dueFault(x, "xn---", false, 30, 0, 4, 0);
        C.dueFault(x, "xn--td", false, 30, 0, 6, 0);
        C.dueFault(x, "a.b.xn--bcher-kv.xn--", false, 30, 2, 12, 2);
        C.dueFault(x, "xn--t" + UE + "a", false, 30, 0, 5, 0);
        C.dueFault(x, "xn--t.a" + UE, false, 30, 0, 5, 0);
        x.status('!', '!', 0);
        C.dueFault(x, ".xn--t!", false, 30, 1, 5, 1);
        C.dueFault(x, "xn--99999999", false, 30, 0, 11, 0);
        x.status('X', 'X', 0);
        C.dueFault(x, "Xn-.a", false, 42, 0, 2, 0);
        C.dueFault(x, "Xn--tda", false, 41, 0, 2, 0);
        C.dueMade(x, "xn-x.xna-b.xn", false, "xn-x.xna-b.xn", 3);
        C.dueFault(x, "xa--tda", false, 41, 0, 2, 0);
        C.dueFault(x, "an--tda", false, 41, 0, 2, 0);
        x.status('X', 'X', 3);
        C.dueFault(x, "xn--X-kva", false, 20, 0, 4, 0);
        x.status('T', 'T', 0);
        C.dueMade(x, "xn--Tda", false, UE, 1);
        x.status('T', 'T', 3);
        Checks.row(x, "T");
        x.map('t');
        C.dueMade(x, "xn--tda", false, UE, 1);
        C.dueFault(x, "xn--t-tda", false, 44, 0, 1, 0);
    }

    private static void decodedForm() {
        WideNames x = withParts();
        C.dueMade(x, coded(7000), false, of(7000), 1);
        C.dueFault(x, coded(97, 768), false, 40, 0, 0, 0);
        C.dueFault(x, "a." + coded('b', 97, 768, 'c'), false, 40, 1, 1, 1);
        C.dueFault(x, coded('b', 768, 803), false, 40, 0, 1, 0);
        C.dueFault(x, coded('b', 'c', 7003), false, 40, 0, 2, 0);
        C.dueFault(x, coded(44032, 4520), false, 40, 0, 0, 0);
        WideNames y = new WideNames();
        y.parts(300, 299, 298, false);
        y.parts(301, 299, 297, true);
        C.dueFault(y, coded(98, 299, 298), false, 40, 0, 1, 0);
        C.dueFault(y, coded(98, 301), false, 40, 0, 1, 0);
        y.parts(400, 97, 350, true);
        y.parts(351, 350, 349, true);
        C.dueFault(y, "b." + coded(Checks.many(101, 44033)) + ".-", false, 60, 1, 0, 1);
        C.dueMade(y, "b." + coded(Checks.many(100, 44033)), false, "b." + of(Checks.many(100, 44033)), 2);
        C.dueFault(y, "-b." + coded(Checks.many(101, 44033)), false, 42, 0, 0, 0);
        y.parts(500, 250, 250, true);
        y.parts(501, 500, 0, false);
        C.dueFault(y, coded(251, 501), false, 40, 0, 1, 0);
        // Here the letters come together before the label is decoded.
        y.parts(502, 97, 98, false);
        C.dueFault(y, coded(251, 97, 98), false, 30, 0, 4, 0);
        // Alike as far as the one that ends first reaches.
        y.parts(600, 252, 253, false);
        C.dueFault(y, coded(600, 600, 252, 253), false, 40, 0, 2, 0);
        y.parts(700, 600, 252, true);
        C.dueFault(y, coded(600, 700), false, 40, 0, 1, 0);
    }

    private static void dashes() {
        WideNames x = new WideNames();
        C.dueFault(x, "a.ab--c", false, 41, 1, 2, 1);
        C.dueFault(x, "ab--", false, 41, 0, 2, 0);
        C.dueFault(x, "----", false, 41, 0, 2, 0);
        C.dueMade(x, "a--b.abc--d.ab-c", false, "a--b.abc--d.ab-c", 3);
        C.dueFault(x, coded('a', UE.charAt(0), '-', '-', 'b'), false, 41, 0, 2, 0);
        C.dueFault(x, coded('x', 'n', '-', '-', UE.charAt(0)), false, 41, 0, 2, 0);
        C.dueFault(x, "-", false, 42, 0, 0, 0);
        C.dueFault(x, "a.b.-c-", false, 42, 2, 0, 2);
        C.dueFault(x, "abc-", false, 42, 0, 3, 0);
        C.dueFault(x, "abc-.-", false, 42, 0, 3, 0);
        C.dueFault(x, coded(UE.charAt(0), '-'), false, 42, 0, 1, 0);
        C.dueFault(x, coded('-', UE.charAt(0)), false, 42, 0, 0, 0);
    }

    private static void marks() {
        WideNames x = new WideNames();
        x.range(0, 768, 879, 1);
        C.dueFault(x, "a.\u0300b", false, 43, 1, 0, 1);
        C.dueMade(x, "b\u0300", false, "b\u0300", 1);
        C.dueFault(x, coded(768, 'b'), false, 43, 0, 0, 0);
        C.dueFault(x, "\u0300-", false, 42, 0, 1, 0);
        Checks.row(x, "\u0300!");
        x.map(1000);
        C.dueFault(x, "\u03e8", false, 43, 0, 0, 0);
    }

    private static void notValid() {
        WideNames x = new WideNames();
        x.status(253, 253, 1);
        x.status(254, 254, 3);
        Checks.row(x, "a");
        x.map(255);
        C.dueFault(x, "a." + coded('a', 252, 253, 254), false, 44, 1, 2, 1);
        C.dueFault(x, coded('a', 254), false, 44, 0, 1, 0);
        C.dueFault(x, coded('a', 252, 255), false, 44, 0, 2, 0);
        C.dueFault(x, "b." + coded('a', 8204, 254), false, 44, 1, 2, 1);
        x.parts(400, 'a', '!', true);
        C.dueFault(x, "b" + of(400), false, 44, 0, 2, 0);
    }

    private static void joiners() {
        WideNames x = new WideNames();
        String zwnj = of(8204);
        String zwj = of(8205);
        x.rank(2381, 9);
        x.rank(2382, 10);
        C.dueFault(x, "a" + zwnj + "b", false, 45, 0, 1, 0);
        C.dueFault(x, "a" + zwj, false, 45, 0, 1, 0);
        C.dueFault(x, zwj, false, 45, 0, 0, 0);
        C.dueFault(x, "c." + zwnj, false, 45, 1, 0, 1);
        C.dueMade(x, "a\u094d" + zwnj + ".a\u094d" + zwj + "b", false, "a\u094d" + zwnj + ".a\u094d" + zwj + "b", 2);
        C.dueFault(x, "a\u094e" + zwj, false, 45, 0, 2, 0);
        C.dueFault(x, "a\u094db" + zwj, false, 45, 0, 3, 0);
        C.dueFault(x, "a\u094d" + zwj + zwj, false, 45, 0, 3, 0);
        C.dueFault(x, "\u094d." + zwj, false, 45, 1, 0, 1);
        x.range(2, 'l', 'l', 1);
        x.range(2, 'r', 'r', 2);
        x.range(2, 'd', 'd', 3);
        x.range(2, 't', 't', 4);
        String[] fit = {"l.r", "l.d", "d.r", "d.d", "lt.r", "l.tr", "dtt.ttd", "all.rrl", "tlt.tdt"};
        String[] not = {"r.r", "l.l", "a.r", "l.a", "t.r", "l.t", ".r", "l.", "lat.r", "l.tar", "rt.d", "dt.tl", "r.l"};
        for (String s : fit) {
            C.dueMade(x, s.replace(".", zwnj), false, s.replace(".", zwnj), 1);
            C.dueFault(x, s.replace(".", zwj), false, 45, 0, s.indexOf('.'), 0);
        }
        for (String s : not) {
            C.dueFault(x, s.replace(".", zwnj), false, 45, 0, s.indexOf('.'), 0);
        }
        C.dueFault(x, "l" + zwnj + "ra" + zwnj, false, 45, 0, 4, 0);
        C.dueFault(x, "l" + zwnj + ".r", false, 45, 0, 1, 0);
        C.dueFault(x, "d" + zwnj + zwnj + "d", false, 45, 0, 1, 0);
        x.range(2, 8204, 8204, 4);
        C.dueMade(x, "d" + zwnj + zwnj + "d", false, "d" + zwnj + zwnj + "d", 1);
        x.range(2, 8204, 8204, 3);
        C.dueFault(x, "d" + zwnj + zwnj + "d" + zwnj, false, 45, 0, 4, 0);
        C.dueMade(x, coded('l', 8204, 'r'), false, "l" + zwnj + "r", 1);
        x.status(8204, 8204, 3);
        C.dueFault(x, coded('l', 8204, 'r', 8205), false, 44, 0, 1, 0);
    }

    /** Small letters of their own directions: r R, y AL, n AN, 0 EN, - ES, s CS, t ET, o ON, b BN, m NSM. */
    private static WideNames withDirections() {
        WideNames x = new WideNames();
        x.range(1, 'r', 'r', 1);
        x.range(1, 'y', 'y', 2);
        x.range(1, 'n', 'n', 3);
        x.range(1, 's', 's', 6);
        x.range(1, 't', 't', 7);
        x.range(1, 'o', 'o', 8);
        x.range(1, 'b', 'b', 9);
        x.range(1, 'm', 'm', 10);
        return x;
    }

    private static void directionsOfFirst() {
        WideNames x = withDirections();
        String[] alone = {"0", "s", "o", "m", "b0", "t", "om"};
        for (String s : alone) {
            C.dueMade(x, s + ".a", false, s + ".a", 2);
            C.dueFault(x, "a." + s + ".r", false, 46, 1, 0, 3);
            C.dueFault(x, "y.." + s, false, 46, 2, 0, 3);
        }
        C.dueFault(x, "n", false, 46, 0, 0, 1);
        C.dueFault(x, "a.n.a", false, 46, 1, 0, 3);
        C.dueMade(x, "r..a.", false, "r..a.", 4);
        C.dueFault(x, "0.r.-", false, 42, 2, 0, 2);
    }

    private static void directionsOfOthers() {
        WideNames x = withDirections();
        String[] well = {"r", "y", "a", "ry", "rn", "r0", "r-0", "rsr", "rtr", "ror", "rbr", "rmr", "rm", "rmm",
            "yn", "y0m", "rnmm", "a0", "a-a", "asa", "ata", "aoa", "aba", "ama", "am", "a0mm", "rnn", "r00y"};
        for (String s : well) {
            C.dueMade(x, s + ".r", false, s + ".r", 2);
        }
        String[] wrong = {"ra 1", "r0ar 2", "yma 2", "ar 1", "ay 1", "an 1", "a0n0 2", "rs 1", "rt 1", "ro 1",
            "rb 1", "rom 1", "ros 2", "as 1", "at 1", "aom 1", "ab 1", "asmm 1", "r0n 2", "rn0 2", "rnn0 3",
            "y00nr 3", "rsam 2", "r0ns 3", "r0no 3"};
        for (String s : wrong) {
            int gap = s.indexOf(' ');
            int place = s.charAt(gap + 1) - '0';
            C.dueFault(x, "r." + s.substring(0, gap), false, 46, 1, place, 2);
            C.dueFault(x, "." + s.substring(0, gap) + ".y", true, 46, 1, place, 3);
        }
        C.dueMade(x, "as.aom", false, "as.aom", 2);
        WideNames y = new WideNames();
        y.range(1, 1424, 1535, 1);
        C.dueMade(y, HEBREW + "." + UE, true, "xn--4dbc.xn--tda", 2);
        C.dueFault(y, HEBREW + "a." + UE, true, 46, 0, 2, 2);
        C.dueFault(y, "7." + coded(1488, 1489), false, 46, 0, 0, 2);
        y.range(1, '-', '-', 0);
        C.dueFault(y, "\u05d0-\u05d0", false, 46, 0, 1, 1);
    }

    private static void plainLabels() {
        WideNames x = new WideNames();
        C.dueFault(x, "", true, 51, 0, 0, 1);
        C.dueFault(x, ".", true, 51, 0, 0, 2);
        C.dueFault(x, "a..b", true, 51, 1, 0, 3);
        C.dueFault(x, "a...", true, 51, 1, 0, 4);
        C.dueFault(x, ".a", true, 51, 0, 0, 2);
        C.dueMade(x, "a.", true, "a.", 2);
        C.dueMade(x, UE + ".", true, "xn--tda.", 2);
        C.dueMade(x, "a".repeat(63) + ".b", true, "a".repeat(63) + ".b", 2);
        C.dueFault(x, "a".repeat(64) + ".b", true, 52, 0, 63, 2);
        C.dueFault(x, "c." + "a".repeat(64) + "." + "b".repeat(65), true, 52, 1, 63, 3);
        C.dueFault(x, "a".repeat(64) + "..b", true, 51, 1, 0, 3);
        C.dueMade(x, "a".repeat(64) + "..b", false, "a".repeat(64) + "..b", 3);
        C.dueMade(x, "a".repeat(55) + UE, true, coded(Checks.points("a".repeat(55) + UE)), 1);
        String letters = "a".repeat(58);
        while (coded(Checks.points(letters + UE)).length() > 63) {
            letters = letters.substring(1);
        }
        C.dueMade(x, letters + UE, true, coded(Checks.points(letters + UE)), 1);
        C.dueFault(x, "a" + letters + UE, true, 52, 0, 63, 1);
    }

    private static void plainSizes() {
        WideNames x = new WideNames();
        String three = ("a".repeat(63) + ".").repeat(3);
        C.dueMade(x, three + "b".repeat(61), true, three + "b".repeat(61), 4);
        C.dueMade(x, three + "b".repeat(61) + ".", true, three + "b".repeat(61) + ".", 5);
        C.dueFault(x, three + "b".repeat(62), true, 53, 3, 0, 4);
        C.dueFault(x, three + "b".repeat(62) + ".", true, 53, 4, 0, 5);
        C.dueFault(x, three + "b".repeat(64), true, 52, 3, 63, 4);
        C.dueFault(x, "a.".repeat(127) + "a", true, 53, 127, 0, 128);
        C.dueMade(x, "a.".repeat(127), true, "a.".repeat(127), 128);
        C.dueMade(x, "a.".repeat(150), false, "a.".repeat(150), 151);
        C.dueFault(x, "a.".repeat(150), true, 53, 150, 0, 151);
        C.dueMade(x, ".".repeat(300), false, ".".repeat(300), 301);
        C.dueFault(x, ".".repeat(300), true, 51, 0, 0, 301);
        C.dueFault(x, "a" + ".".repeat(299), true, 51, 1, 0, 300);
    }

    private static void wideSizes() {
        WideNames x = Checks.row(new WideNames(), 65536, 131072, 262144, 1114111);
        x.map('q');
        String four = of(65536, 131072, 262144, 1114111);
        C.dueMade(x, "q".repeat(75), false, four.repeat(75), 1);
        // Encoded it is longer than any row: still no more than a label that is too long.
        C.dueFault(x, "q".repeat(75), true, 52, 0, 63, 1);
        C.dueFault(x, "q".repeat(73) + "..a", true, 51, 1, 0, 3);
        C.dueFault(x, "a." + "q".repeat(30) + "." + "q".repeat(30), true, 52, 1, 63, 3);
        String many = ("q.").repeat(60);
        C.dueMade(x, many, false, (four + ".").repeat(60), 61);
        C.dueFault(x, many, true, 53, 60, 0, 61);
        String labels = (UE + ".").repeat(40);
        C.dueFault(x, labels, true, 53, 40, 0, 41);
        C.dueMade(x, (UE + ".").repeat(31), true, "xn--tda.".repeat(31), 32);
        C.dueMade(x, (UE + ".").repeat(31) + "abcde", true, "xn--tda.".repeat(31) + "abcde", 32);
        C.dueFault(x, (UE + ".").repeat(31) + "abcdef", true, 53, 31, 0, 32);
    }

    private static void whatStays() {
        WideNames x = Checks.row(new WideNames(), "row");
        C.dueMade(x, "A.b" + UE, true, "a.xn--b-eha", 2);
        C.due("17: THE TEXT as it was", x.read(), 4);
        C.due("17: THE TEXT as it was", Checks.row(x), 'A', '.', 'b', 252);
        Checks.row(x, "row");
        C.due("17: make again", x.make(false), 5);
        C.due("17: the row as it was", Checks.row(x), 'r', 'o', 'w');
        C.dueFault(x, "a!", false, 20, 0, 1, 0);
        C.due("17: the row as it was", Checks.row(x), 'r', 'o', 'w');
        C.due("19: what was made without a fault", Checks.made(x), 'a', '.', 'b', 195, 188);
        C.dueMade(x, "", false, "", 1);
        C.due("19: nothing made", x.octet(0), -1);
        x.feed('!', 1);
        C.due("18: feed leaves what fault() tells", Checks.faults(x), 0, 0, 0, 1);
    }
}
