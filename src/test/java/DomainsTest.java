/** Promises 17 to 19: make, fault, octet; READ, MAP, ONE FORM of it all, and what is told of them. */
public final class DomainsTest {
    private static final Checks C = new Checks();
    private static final Told NEW = new Told();
    private static final String UE = "\u00fc";

    public static void main(String[] args) {
        ordinary();
        octetsOfPoints();
        faultOfRead();
        makeOf300();
        mappedByStatus();
        mappedOnce();
        disallowed();
        mappedTo300();
        disallowedAboutThe301st();
        oneFormOfItAll();
        oneFormOf300();
        firstFaultCounts();
        faultOfNoMake();
        faultOfTheLatest();
        faultOfNoSuchWhat();
        octetsOfNoMake();
        octetsOfTheLatestWithoutAFault();
        octetsAtTheEnds();
        refusedMakeChangesNothing();
        makeLeavesTheRest();
        C.end();
    }

    private static int[] octets(int count, char c, int... more) {
        return Checks.join(Checks.many(count, c), more);
    }

    // 17: "THE TEXT is READ, and the domain MADE of it is PLAIN (plain) or WIDE in octets: how many these are; -10 less
    // the FAULT; 10 is a fault of READ (label 0, its PLACE), 60 also a 301st point of THE TEXT before any fault of it
    // (PLACE 300)."

    private static void ordinary() {
        C.dueMade(NEW, "example.com", true, "example.com", 2);
        C.dueMade(NEW, "EXAMPLE.Com.", true, "example.com.", 3);
        C.dueMade(NEW, "b" + UE + "cher.de", true, "xn--bcher-kva.de", 2);
        C.dueMade(NEW, "b" + UE + "cher.de", false, "b" + UE + "cher.de", 2);
        C.dueMade(NEW, "XN--BCHER-kva.de", false, "b" + UE + "cher.de", 2);
        C.dueMade(NEW, "xn--bcher-kva.xn--tda", true, "xn--bcher-kva.xn--tda", 2);
        C.dueMade(NEW, "a." + UE + ".b." + UE + UE, true, "a.xn--tda.b.xn--tdaa", 4);
        C.dueMade(NEW, "\ud83d\ude00", false, "\ud83d\ude00", 1);
        C.dueMade(NEW, "a-b.c--d", true, "a-b.c--d", 2);
        C.dueMade(NEW, "az09.AZ", true, "az09.az", 2);
    }

    /** The first and the last points of one, two, three and four octets. */
    private static void octetsOfPoints() {
        Told t = NEW.copy().status(127, 127, 0);
        C.dueMade(t, "\u007f\u0080", false, "\u007f\u0080", 1);
        C.dueMade(t, "\u007f", true, "\u007f", 1);
        C.dueMade(t, "\u0080", true, "xn--a", 1);
        int[] edges = {128, 129, 191, 192, 2046, 2047, 2048, 2049, 4095, 4096, 8191, 8192, 55295, 57344, 61440, 65534,
            65535, 65536, 65537, 131071, 196608, 262143, 262144, 262145, 524287, 524288, 786432, 1048575, 1048576,
            1114110, 1114111};
        for (int p : edges) {
            C.dueMade(NEW, Checks.of(p), false, Checks.of(p), 1);
            C.dueMade(NEW, Checks.of('a', p), true, Checks.coded('a', p), 1);
            C.dueMade(NEW, Checks.coded('a', p), false, Checks.of('a', p), 1);
        }
    }

    private static void faultOfRead() {
        C.dueFault(NEW, octets(0, 'a', 255), false, 10, 0, 0, 0);
        C.dueFault(NEW, octets(0, 'a', 195), true, 10, 0, 1, 0);
        C.dueFault(NEW, octets(0, 'a', 'a', '.', 195), true, 10, 0, 3, 0);
        C.dueFault(NEW, octets(0, 'a', '!', '.', '-', 237, 160), false, 10, 0, 4, 0);
        C.dueFault(NEW, octets(0, 'a', 195, 188, 255), false, 10, 0, 2, 0);
        C.dueFault(NEW, Checks.join(Checks.octets("\u20ac".repeat(133)), new int[] {255}), false, 10, 0, 399, 0);
        C.dueFault(NEW, Checks.join(Checks.octets("\u20ac".repeat(133)), new int[] {226}), false, 10, 0, 400, 0);
        C.due("17: -10 less 10", NEW.copy().text(255), x -> x.make(false), -20);
    }

    private static void makeOf300() {
        C.dueMade(NEW, "a".repeat(299), false, "a".repeat(299), 1);
        C.dueMade(NEW, "a".repeat(300), false, "a".repeat(300), 1);
        C.dueMade(NEW, "a".repeat(299) + UE, false, "a".repeat(299) + UE, 1);
        C.dueFault(NEW, "a".repeat(301), false, 60, 0, 300, 0);
        C.dueFault(NEW, "a".repeat(400), true, 60, 0, 300, 0);
        C.dueFault(NEW, "!".repeat(301), false, 60, 0, 300, 0);
        C.dueFault(NEW, octets(300, 'a', 255), false, 10, 0, 300, 0);
        C.dueFault(NEW, octets(300, 'a', 195), false, 10, 0, 301, 0);
        C.dueFault(NEW, octets(300, 'a', 195, 'a'), false, 10, 0, 301, 0);
        C.dueFault(NEW, octets(300, 'a', 'b', 255), false, 60, 0, 300, 0);
        C.dueFault(NEW, octets(300, 'a', 195, 188, 255), false, 60, 0, 300, 0);
        C.dueFault(NEW.copy().status('b', 'b', 1), "a" + "b".repeat(300), false, 60, 0, 300, 0);
        C.dueMade(NEW.copy().status('b', 'b', 1), "a" + "b".repeat(299), false, "a", 1);
    }

    // "1 MAP: each point by its STATUS: stays, goes, becomes what it is mapped to (once); 20 at the first that is
    // DISALLOWED (PLACE in the row)."

    private static void mappedByStatus() {
        Told t = NEW.copy().status(173, 173, 1).map(223, "ss").map(12290, ".").map(300, "w").map(301, "wxy")
                .map(302, "wxyz");
        C.dueMade(t, "a\u00adb.\u00ad", false, "ab.", 2);
        C.dueMade(t, "\u00ad", false, "", 1);
        C.dueMade(t, "\u00adX\u00adn\u00ad--tda", false, UE, 1);
        C.dueMade(t, "Stra\u00dfe", true, "strasse", 1);
        C.dueMade(t, "a\u3002b", true, "a.b", 2);
        C.dueMade(t, Checks.of(300, 301, 302, 'a'), false, "wwxywxyza", 1);
        C.dueMade(t, "AZ", false, "az", 1);
    }

    private static void mappedOnce() {
        Told t = NEW.copy().map(1000, "!").map(1001, "Q").map(1002, 1000).map(1003, 1004).status(1004, 1004, 1);
        C.dueFault(t, Checks.of('a', 'b', 1000), false, 44, 0, 2, 0);
        C.dueFault(t, Checks.of('c', '.', 'b', 1001), false, 44, 1, 1, 1);
        C.dueFault(t, Checks.of(1002), false, 44, 0, 0, 0);
        C.dueFault(t, Checks.of('a', 1003), false, 44, 0, 1, 0);
        C.dueMade(t.copy().status('!', '!', 0), Checks.of('a', 1000, '!'), false, "a!!", 1);
        C.dueMade(t.copy().status(1000, 1000, 0), Checks.of(1002), false, Checks.of(1000), 1);
    }

    private static void disallowed() {
        C.dueFault(NEW, "!", false, 20, 0, 0, 0);
        C.dueFault(NEW, "!a", false, 20, 0, 0, 0);
        C.dueFault(NEW, "ab,", false, 20, 0, 2, 0);
        C.dueFault(NEW, "a.b!c.,", false, 20, 0, 3, 0);
        C.dueFault(NEW, "xn--a.b!", true, 20, 0, 7, 0);
        C.dueFault(NEW, UE + UE + "!", true, 20, 0, 2, 0);
        C.dueFault(NEW, "-.-!", true, 20, 0, 3, 0);
        C.dueFault(NEW.copy().status('b', 'b', 1), "bb!", true, 20, 0, 2, 0);
        C.dueFault(NEW.copy().map('b', "xyz"), "bb!", true, 20, 0, 2, 0);
        C.dueFault(NEW.copy().status('.', '.', 3), "ab.c", false, 20, 0, 2, 0);
        C.dueFault(NEW.copy().status(Checks.TOP, Checks.TOP, 3), Checks.of('a', Checks.TOP), false, 20, 0, 1, 0);
        C.dueFault(NEW, "a".repeat(299) + "!", false, 20, 0, 299, 0);
    }

    // "FULL (60), if it would have more than 300 points; PLACE: that of the point in the row that is mapped."

    private static void mappedTo300() {
        Told t = NEW.copy().map('a', "wxyz").status('!', '!', 3).status('i', 'i', 1);
        C.dueMade(t, "a".repeat(75), false, "wxyz".repeat(75), 1);
        C.dueMade(t, "a".repeat(74) + "bcde", false, "wxyz".repeat(74) + "bcde", 1);
        C.dueMade(t, "b".repeat(296) + "a", false, "b".repeat(296) + "wxyz", 1);
        C.dueFault(t, "b".repeat(297) + "a", false, 60, 0, 297, 0);
        C.dueFault(t, "b".repeat(299) + "a", false, 60, 0, 299, 0);
        C.dueFault(t, "a".repeat(75) + "b", false, 60, 0, 75, 0);
        C.dueFault(t, "a".repeat(75) + "bc", false, 60, 0, 75, 0);
        C.dueFault(t, "a".repeat(75) + "B", false, 60, 0, 75, 0);
        C.dueFault(t, "a".repeat(76), false, 60, 0, 75, 0);
        C.dueFault(t, "b" + "a".repeat(75), false, 60, 0, 75, 0);
        C.dueFault(t, "a" + "b".repeat(297), false, 60, 0, 297, 0);
        C.dueMade(t, "a".repeat(75) + "ii", false, "wxyz".repeat(75), 1);
        C.dueFault(t, "a".repeat(75) + "iib", false, 60, 0, 77, 0);
        C.dueMade(t, "i".repeat(225) + "a".repeat(75), false, "wxyz".repeat(75), 1);
        for (int n = 1; n <= 4; n++) {
            Told one = NEW.copy().map('a', Checks.many(n, 'z'));
            C.dueMade(one, "b".repeat(300 - n) + "a", false, "b".repeat(300 - n) + "z".repeat(n), 1);
            C.dueFault(one, "b" + "a".repeat(300 / n), false, 60, 0, 300 / n, 0);
        }
    }

    private static void disallowedAboutThe301st() {
        Told t = NEW.copy().map('a', "wxyz");
        C.dueFault(t, "a".repeat(75) + "!", false, 20, 0, 75, 0);
        C.dueFault(t, "a".repeat(75) + "!b", false, 20, 0, 75, 0);
        C.dueFault(t, "a".repeat(75) + "b!", false, 60, 0, 75, 0);
        C.dueFault(t, "a!" + "b".repeat(297), false, 20, 0, 1, 0);
        C.dueFault(t, "!" + "a".repeat(76), false, 20, 0, 0, 0);
    }

    // "2 ONE FORM of it all (60 with PLACE 0 if it is too long)."

    private static Told withParts() {
        return NEW.copy().rank(768, 230).rank(803, 220).parts(1000, 97, 768, false).parts(1001, 97, 803, false)
                .parts(1002, 1001, 768, false).parts(1003, 98, 768, true);
    }

    private static void oneFormOfItAll() {
        Told t = withParts();
        C.dueMade(t, "A\u0300." + Checks.of(1000, 803), false, Checks.of(1000, '.', 1002), 2);
        C.dueMade(t, Checks.of(1003), false, "b\u0300", 1);
        C.dueMade(NEW, Checks.of(4352, 4449, '.', 44032, 4520), false, Checks.of(44032, '.', 44033), 2);
        C.dueMade(t.copy().parts(1004, '.', 768, false), "a.\u0300b", false, Checks.of('a', 1004, 'b'), 1);
        C.dueMade(t.copy().parts(1005, 99, '.', true), Checks.of(1005, 'd'), false, "c.d", 2);
        C.dueMade(t.copy().map(1006, 97, 803), Checks.of(1006, 768), false, Checks.of(1002), 1);
    }

    private static void oneFormOf300() {
        Told t = NEW.copy().parts(1000, 97, 98, false);
        String half = Checks.of(Checks.many(150, 1000));
        C.dueMade(t, half, false, half, 1);
        C.dueMade(t, Checks.of(Checks.many(149, 1000)) + "a.", false, Checks.of(Checks.many(149, 1000)) + "a.", 2);
        C.dueFault(t, half + "c", false, 60, 0, 0, 0);
        C.dueFault(t, "c." + half, true, 60, 0, 0, 0);
        C.dueFault(t, half + Checks.of(1000), false, 60, 0, 0, 0);
        C.dueFault(t, "-." + half, false, 60, 0, 0, 0);
        C.dueMade(NEW, Checks.of(Checks.many(100, 44033)), false, Checks.of(Checks.many(100, 44033)), 1);
        C.dueFault(NEW, "a" + Checks.of(Checks.many(100, 44033)), false, 60, 0, 0, 0);
    }

    // "MADE is a domain out of a row thus, the first FAULT counts"

    private static void firstFaultCounts() {
        Told t = NEW.copy().parts(1000, 97, 98, false).range(0, 'm', 'm', 1).range(1, 'r', 'r', 1).map(1001, "!");
        String half = Checks.of(Checks.many(150, 1000));
        C.dueFault(t, Checks.join(Checks.octets("!"), new int[] {255}), false, 10, 0, 1, 0);
        C.dueFault(t, half + "c!", false, 20, 0, 151, 0);
        C.dueFault(t, "-.c" + half, false, 60, 0, 0, 0);
        C.dueFault(t, "-.xn--td.r1.." + "a".repeat(64), true, 42, 0, 0, 0);
        C.dueFault(t, "a.xn--td.-", true, 30, 1, 6, 1);
        C.dueFault(t, "xn--b.-", true, 30, 0, 5, 0);
        C.dueFault(t, "ra.m", false, 43, 1, 0, 1);
        C.dueFault(t, "ra..b." + "c".repeat(64), true, 46, 0, 1, 4);
        C.dueFault(t, "a.." + "c".repeat(64), true, 51, 1, 0, 3);
        C.dueFault(t, "c".repeat(64) + ".." + "b", true, 51, 1, 0, 3);
        C.dueFault(t, ("c".repeat(64) + ".").repeat(4), true, 52, 0, 63, 5);
        C.dueFault(t, Checks.of('m', 1001, '-'), false, 42, 0, 2, 0);
        C.dueFault(t, Checks.of('m', 1001), false, 43, 0, 0, 0);
    }

    // 18: "Of the latest make(): what = 0 its FAULT (0), 1 the label in which it stands (from 0; 0 with 10, 20, and 60
    // behind READ, MAP, ONE FORM of it all), 2 PLACE, 3 how many labels were looked at whole .. -2 no such what."

    private static void faultOfNoMake() {
        for (int what = 0; what < 4; what++) {
            int w = what;
            C.due("18: fault(" + what + ") before any make()", NEW, x -> x.fault(w), 0);
        }
    }

    private static void faultOfTheLatest() {
        Names x = NEW.copy().text("a.b.-c").fresh();
        C.due("18: a fault", x.make(false), -52);
        C.due("18: what is told of it", Checks.faults(x), 42, 2, 0, 2);
        x.feed('!', 1);
        x.status('a', 'a', 3);
        C.due("18: feed() and status() leave it", Checks.faults(x), 42, 2, 0, 2);
        C.due("18: another fault", x.make(false), -30);
        C.due("18: what is told of that", Checks.faults(x), 20, 0, 0, 0);
        Checks.text(x, "b.c");
        C.due("18: no fault", x.make(false), 3);
        C.due("18: what is told then", Checks.faults(x), 0, 0, 0, 2);
        Checks.text(x, 'b', 255);
        C.due("18: a fault of READ", x.make(false), -20);
        C.due("18: no label was looked at", Checks.faults(x), 10, 0, 1, 0);
    }

    private static void faultOfNoSuchWhat() {
        Told made = NEW.copy().text("a.b.-c").then(x -> x.make(false)).row('r');
        for (Told t : new Told[] {NEW, made}) {
            for (int what : new int[] {Integer.MIN_VALUE, -1, 4, 5, Integer.MAX_VALUE}) {
                C.refused("18: fault(" + what + ")", t, x -> x.fault(what), -2);
            }
        }
    }

    // 19: "Octet i of what the latest make() without a fault made. -1 there is none."

    private static void octetsOfNoMake() {
        for (int i : new int[] {Integer.MIN_VALUE, -1, 0, 1, Integer.MAX_VALUE}) {
            C.refused("19: octet(" + i + ") before any make()", NEW, x -> x.octet(i), -1);
            C.due("19: octet(" + i + ") behind a fault alone", NEW.copy().text("-").then(x -> x.make(false)),
                    x -> x.octet(i), -1);
        }
    }

    private static void octetsOfTheLatestWithoutAFault() {
        Names x = NEW.copy().text("abc." + UE).fresh();
        C.due("19: made", x.make(false), 6);
        C.due("19: its octets", Checks.made(x), 'a', 'b', 'c', '.', 195, 188);
        C.due("19: made plain", x.make(true), 11);
        C.due("19: its octets", Checks.made(x), Checks.octets("abc.xn--tda"));
        x.feed('-', 1);
        C.due("19: a fault", x.make(true), -52);
        C.due("19: the octets of before", Checks.made(x), Checks.octets("abc.xn--tda"));
        x.feed(0, 0);
        C.due("19: a fault of PLAIN", x.make(true), -61);
        C.due("19: the octets of before", Checks.made(x), Checks.octets("abc.xn--tda"));
        Checks.text(x, "b");
        C.due("19: made, shorter", x.make(true), 1);
        C.due("19: its octets alone", Checks.made(x), 'b');
        x.feed(0, 0);
        C.due("19: nothing made", x.make(false), 0);
        C.due("19: no octets", x.octet(0), -1);
    }

    private static void octetsAtTheEnds() {
        Told t = NEW.copy().text("..a.").then(x -> x.make(false)).row('r');
        C.due("19: the first", t, x -> x.octet(0), '.');
        C.due("19: the last", t, x -> x.octet(3), '.');
        for (int i : new int[] {Integer.MIN_VALUE, -2, -1, 4, 5, Integer.MAX_VALUE}) {
            C.refused("19: octet(" + i + ")", t, x -> x.octet(i), -1);
        }
        Told most = NEW.copy().map('q', 65536, 131072, 262144, 1114111).text("q".repeat(75)).then(x -> x.make(false));
        C.due("19: 1200 octets, the last", most, x -> x.octet(1199), 191);
        C.due("19: none behind it", most, x -> x.octet(1200), -1);
    }

    // "ANSWERS below 0 change nothing (but, of make(), what fault() tells)"

    private static void refusedMakeChangesNothing() {
        Told t = NEW.copy().parts(1000, 97, 98, false).range(0, 'm', 'm', 1).range(1, 'r', 'r', 1);
        String half = Checks.of(Checks.many(150, 1000));
        C.refusedMake(t, octets(1, 'a', 255), false, 10, 0, 1, 0);
        C.refusedMake(t, octets(301, 'a'), false, 60, 0, 300, 0);
        C.refusedMake(t, Checks.octets("a!"), false, 20, 0, 1, 0);
        C.refusedMake(t, Checks.octets(half + "c"), false, 60, 0, 0, 0);
        C.refusedMake(t, Checks.octets("a.xn--b"), false, 30, 1, 5, 1);
        C.refusedMake(t, Checks.octets("a.xn--b-"), false, 32, 1, 0, 1);
        C.refusedMake(t, Checks.octets("a." + Checks.coded(4352, 4449)), false, 40, 1, 0, 1);
        C.refusedMake(t, Checks.octets("a." + Checks.coded(Checks.many(101, 44033))), false, 60, 1, 0, 1);
        C.refusedMake(t, Checks.octets("a.bc--d"), false, 41, 1, 2, 1);
        C.refusedMake(t, Checks.octets("a.b-"), false, 42, 1, 1, 1);
        C.refusedMake(t, Checks.octets("a.m"), false, 43, 1, 0, 1);
        C.refusedMake(t.copy().map(1001, "!"), Checks.octets("a." + Checks.of(1001)), false, 44, 1, 0, 1);
        C.refusedMake(t, Checks.octets("a." + Checks.of(8204)), false, 45, 1, 0, 1);
        C.refusedMake(t, Checks.octets("a.ra"), false, 46, 1, 1, 2);
        C.refusedMake(t, Checks.octets("a..b"), true, 51, 1, 0, 3);
        C.refusedMake(t, Checks.octets("a." + "b".repeat(64)), true, 52, 1, 63, 2);
        C.refusedMake(t, Checks.octets("a.".repeat(127) + "a"), true, 53, 127, 0, 128);
    }

    // "Calls that read THE TEXT leave it as it is."

    private static void makeLeavesTheRest() {
        Told t = NEW.copy().row('r', 'o', 'w').text("A.b" + UE);
        for (boolean plain : new boolean[] {false, true}) {
            Names x = t.fresh();
            x.make(plain);
            C.due("17: the row as it was", Checks.row(x), 'r', 'o', 'w');
            C.due("17: make again", x.make(plain), plain ? 11 : 5);
            C.due("17: THE TEXT as it was", x.read(), 4);
            C.due("17: THE TEXT as it was", Checks.row(x), 'A', '.', 'b', 252);
            C.due("17: what is behind it", x.feed('c', 1), 6);
        }
    }
}
