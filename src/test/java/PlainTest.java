/** Promise 17, 4: WIDE and PLAIN, with the faults 50 to 53. */
public final class PlainTest {
    private static final Checks C = new Checks();
    private static final Told NEW = new Told();
    private static final String UE = "\u00fc";

    public static void main(String[] args) {
        wideHasNoBounds();
        wideOf1200Octets();
        plainWithAPointAbove127();
        emptyLabels();
        labelsOf63();
        encodedLabelsOf63();
        encodedLabelsAreNeverFull();
        allOf253();
        allOf253WithoutTheLast();
        orderOfFaults();
        C.end();
    }

    // "WIDE is the domain: the labels with . between."

    private static void wideHasNoBounds() {
        C.dueMade(NEW, "", false, "", 1);
        C.dueMade(NEW, ".", false, ".", 2);
        C.dueMade(NEW, "a..b", false, "a..b", 3);
        C.dueMade(NEW, "a".repeat(64) + "..b", false, "a".repeat(64) + "..b", 3);
        C.dueMade(NEW, "a.".repeat(150), false, "a.".repeat(150), 151);
        C.dueMade(NEW, "xn--tda..", false, UE + "..", 3);
    }

    private static void wideOf1200Octets() {
        int[] four = {65536, 131072, 262144, 1114111};
        Told t = NEW.copy().map('q', four).map('p', 65535, 65535, 65535, 65535).map('o', 2047, 2047, 2047, 2047);
        C.dueMade(t, "q".repeat(75), false, Checks.of(four).repeat(75), 1);
        C.dueMade(t, "q.".repeat(60), false, (Checks.of(four) + ".").repeat(60), 61);
        C.dueMade(t, "p".repeat(75), false, Checks.of(65535).repeat(300), 1);
        C.dueMade(t, "o".repeat(75), false, Checks.of(2047).repeat(300), 1);
        C.due("17: how many octets, four each", t.copy().text("q".repeat(75)), x -> x.make(false), 1200);
        C.due("17: how many octets, three each", t.copy().text("p".repeat(75)), x -> x.make(false), 900);
        C.due("17: how many octets, two each", t.copy().text("o".repeat(75)), x -> x.make(false), 600);
    }

    // "PLAIN: each label with a point above 127 is xn-- and it ENCODED"

    private static void plainWithAPointAbove127() {
        Told t = NEW.copy().status(127, 127, 0);
        C.dueMade(t, "\u007f", true, "\u007f", 1);
        C.dueMade(t, "\u0080", true, "xn--a", 1);
        C.dueMade(t, "a\u007f.a\u0080", true, "a\u007f.xn--a-ba", 2);
        C.dueMade(t, UE + ".a." + UE + UE, true, "xn--tda.a.xn--tdaa", 3);
        C.dueMade(t, "xn--TDA", true, "xn--tda", 1);
        C.dueMade(t, Checks.of(Checks.TOP), true, "xn--dn32g", 1);
        C.dueMade(t, UE + ".", true, "xn--tda.", 2);
    }

    // "51 at 0 of the first empty label, but for the last one, if there are others"

    private static void emptyLabels() {
        C.dueFault(NEW, "", true, 51, 0, 0, 1);
        C.dueFault(NEW, ".", true, 51, 0, 0, 2);
        C.dueFault(NEW, "..", true, 51, 0, 0, 3);
        C.dueFault(NEW, ".a", true, 51, 0, 0, 2);
        C.dueFault(NEW, ".a.", true, 51, 0, 0, 3);
        C.dueFault(NEW, "a..", true, 51, 1, 0, 3);
        C.dueFault(NEW, "a..b", true, 51, 1, 0, 3);
        C.dueFault(NEW, "a.b..c..d", true, 51, 2, 0, 6);
        C.dueFault(NEW, ".".repeat(300), true, 51, 0, 0, 301);
        C.dueFault(NEW, "a" + ".".repeat(299), true, 51, 1, 0, 300);
        C.dueFault(NEW.copy().status('i', 'i', 1), "iii", true, 51, 0, 0, 1);
        C.dueMade(NEW, "a.", true, "a.", 2);
        C.dueMade(NEW, "a.b.", true, "a.b.", 3);
        C.dueMade(NEW, "a", true, "a", 1);
    }

    // "52 at 63 of the first one longer than 63"

    private static void labelsOf63() {
        String fits = "a".repeat(63);
        String more = "a".repeat(64);
        C.dueMade(NEW, fits, true, fits, 1);
        C.dueMade(NEW, fits + "." + fits + ".", true, fits + "." + fits + ".", 3);
        C.dueFault(NEW, more, true, 52, 0, 63, 1);
        C.dueFault(NEW, more + ".", true, 52, 0, 63, 2);
        C.dueFault(NEW, more + ".b", true, 52, 0, 63, 2);
        C.dueFault(NEW, fits + "." + more, true, 52, 1, 63, 2);
        C.dueFault(NEW, "c." + more + "." + "b".repeat(65), true, 52, 1, 63, 3);
        C.dueFault(NEW, "a".repeat(300), true, 52, 0, 63, 1);
        C.dueMade(NEW, more, false, more, 1);
    }

    private static void encodedLabelsOf63() {
        // 252 is tda, and each more of it one a.
        C.dueMade(NEW, UE.repeat(57), true, "xn--tda" + "a".repeat(56), 1);
        C.dueFault(NEW, UE.repeat(58), true, 52, 0, 63, 1);
        C.dueMade(NEW, "b." + UE.repeat(57) + ".", true, "b.xn--tda" + "a".repeat(56) + ".", 3);
        C.dueFault(NEW, "b." + UE.repeat(58) + ".", true, 52, 1, 63, 3);
        String letters = "\u0080" + "a".repeat(57);
        C.dueMade(NEW, letters, true, "xn--" + "a".repeat(57) + "-a", 1);
        C.dueFault(NEW, letters + "a", true, 52, 0, 63, 1);
        String plain = "xn--" + "a".repeat(57) + "-a";
        C.dueMade(NEW, plain, true, plain, 1);
        C.dueFault(NEW, "xn--" + "a".repeat(58) + "-a", true, 52, 0, 63, 1);
        C.dueMade(NEW, "xn--" + "a".repeat(58) + "-a", false, letters + "a", 1);
    }

    /** No number of 300 points is above 2^31 - 1; one that is ENCODED longer than a row has points is too long, 52. */
    private static void encodedLabelsAreNeverFull() {
        Told t = NEW.copy().map('q', 65536, 131072, 262144, 1114111).map('z', 128, 1114111, 128, 1114111);
        C.dueFault(t, "q".repeat(75), true, 52, 0, 63, 1);
        C.dueFault(t, "z".repeat(75), true, 52, 0, 63, 1);
        C.dueFault(t, "a".repeat(299) + Checks.of(Checks.TOP), true, 52, 0, 63, 1);
        C.dueFault(t, "b" + "a".repeat(298) + Checks.of(Checks.TOP), true, 52, 0, 63, 1);
        C.dueFault(t, "q".repeat(73) + "..a", true, 51, 1, 0, 3);
        C.dueFault(t, "a." + "q".repeat(30) + "." + "q".repeat(30), true, 52, 1, 63, 3);
        StringBuilder three = new StringBuilder();
        for (int i = 0; i < 133; i++) {
            three.appendCodePoint(20000 + i * 149);
        }
        C.dueFault(NEW, three.toString(), true, 52, 0, 63, 1);
        C.dueMade(NEW, three.toString(), false, three.toString(), 1);
    }

    // "53 at 0 of the last one: all with . (without the last label, if that is empty, and the . before it) are more than
    // 253, or none."

    private static final String THREE = ("a".repeat(63) + ".").repeat(3);

    private static void allOf253() {
        C.dueMade(NEW, THREE + "b".repeat(60), true, THREE + "b".repeat(60), 4);
        C.dueMade(NEW, THREE + "b".repeat(61), true, THREE + "b".repeat(61), 4);
        C.dueFault(NEW, THREE + "b".repeat(62), true, 53, 3, 0, 4);
        C.dueFault(NEW, THREE + "b".repeat(63), true, 53, 3, 0, 4);
        C.dueFault(NEW, THREE + "b".repeat(60) + ".c", true, 53, 4, 0, 5);
        C.dueMade(NEW, THREE + "b".repeat(59) + ".c", true, THREE + "b".repeat(59) + ".c", 5);
        C.dueMade(NEW, "a.".repeat(126) + "a", true, "a.".repeat(126) + "a", 127);
        C.dueFault(NEW, "a.".repeat(126) + "ab", true, 53, 126, 0, 127);
        C.dueFault(NEW, "a.".repeat(127) + "a", true, 53, 127, 0, 128);
        C.dueMade(NEW, (UE + ".").repeat(31) + "abcde", true, "xn--tda.".repeat(31) + "abcde", 32);
        C.dueFault(NEW, (UE + ".").repeat(31) + "abcdef", true, 53, 31, 0, 32);
        C.dueMade(NEW, THREE + "b".repeat(62), false, THREE + "b".repeat(62), 4);
    }

    private static void allOf253WithoutTheLast() {
        C.dueMade(NEW, THREE + "b".repeat(61) + ".", true, THREE + "b".repeat(61) + ".", 5);
        C.dueFault(NEW, THREE + "b".repeat(62) + ".", true, 53, 4, 0, 5);
        C.dueMade(NEW, "a.".repeat(127), true, "a.".repeat(127), 128);
        C.dueFault(NEW, "a.".repeat(128), true, 53, 128, 0, 129);
        C.dueFault(NEW, "a.".repeat(150), true, 53, 150, 0, 151);
        C.dueMade(NEW, (UE + ".").repeat(31) + "abcde.", true, "xn--tda.".repeat(31) + "abcde.", 33);
        C.dueFault(NEW, (UE + ".").repeat(31) + "abcdef.", true, 53, 32, 0, 33);
        C.dueFault(NEW, (UE + ".").repeat(40), true, 53, 40, 0, 41);
        Told wide = NEW.copy().map('q', 65536, 131072, 262144, 1114111);
        C.dueFault(wide, "q.".repeat(60), true, 53, 60, 0, 61);
        // None at all is one empty label alone: that is told as 51.
        C.dueFault(NEW, "", true, 51, 0, 0, 1);
        C.dueFault(NEW, ".", true, 51, 0, 0, 2);
    }

    private static void orderOfFaults() {
        C.dueFault(NEW, "a".repeat(64) + "..b", true, 51, 1, 0, 3);
        C.dueFault(NEW, ".a." + "a".repeat(64), true, 51, 0, 0, 3);
        C.dueFault(NEW, THREE + "b".repeat(64), true, 52, 3, 63, 4);
        C.dueFault(NEW, THREE + "a".repeat(63) + "..", true, 51, 4, 0, 6);
        C.dueFault(NEW, THREE + "a".repeat(63) + ".", true, 53, 4, 0, 5);
    }
}
