/** Promise 17, 4: the fault 46, when all labels are looked at. */
public final class DirectionsTest {
    private static final Checks C = new Checks();
    private static final Told NEW = new Told();
    /** Small letters of their own directions: L, R, AL, AN, EN, ES, CS, ET, ON, BN, NSM in the order of the numbers. */
    private static final String LETTERS = "aryne-stobm";
    private static final String RIGHT = "ry";
    private static final String NUMBERS = "ne";

    public static void main(String[] args) {
        onlyWithOneThatGoesRight();
        firstPoint();
        pointsOfOneToTheRight();
        pointsOfOneToTheLeft();
        lastPoint();
        lastPointBeforeMarks();
        otherNumber();
        labelsInOrder();
        orderInALabel();
        whenAllLabelsAreLookedAt();
        directionsAtFirst();
        C.end();
    }

    private static Told told() {
        Told t = NEW.copy();
        for (int d = 0; d < LETTERS.length(); d++) {
            t.range(1, LETTERS.charAt(d), LETTERS.charAt(d), d);
        }
        return t;
    }

    /** A label is right, beside one that goes right. */
    private static void dueRight(String label) {
        C.dueMade(told(), "r." + label, false, "r." + label, 2);
        C.dueMade(told(), label + ".y", false, label + ".y", 2);
    }

    /** A label is wrong, beside one that goes right. */
    private static void dueWrong(String label, int place) {
        C.dueFault(told(), "r." + label, false, 46, 1, place, 2);
        C.dueFault(told(), "." + label + ".y", true, 46, 1, place, 3);
    }

    // "When all labels are looked at, and some label has a point of the direction R, AL or AN, each that is not empty,
    // in order"

    private static void onlyWithOneThatGoesRight() {
        for (char c : LETTERS.toCharArray()) {
            String label = "a" + c + "c";
            boolean wrong = RIGHT.indexOf(c) >= 0 || c == 'n';
            if (wrong) {
                C.dueFault(told(), "ostb." + label, false, 46, 0, 0, 2);
            } else {
                C.dueMade(told(), "ostb." + label, false, "ostb." + label, 2);
            }
        }
        C.dueMade(told(), "e.s.o.m.b.t.me.o-o.", false, "e.s.o.m.b.t.me.o-o.", 9);
        C.dueMade(told(), "e-e.a.", true, "e-e.a.", 3);
        C.dueFault(told(), "e.r", false, 46, 0, 0, 2);
        C.dueFault(told(), "e.y", false, 46, 0, 0, 2);
        C.dueFault(told(), "e.n", false, 46, 0, 0, 2);
        C.dueMade(told(), "..r..a.", false, "..r..a.", 6);
        C.dueMade(told().range(1, '.', '.', 1), "e.s", false, "e.s", 2);
        C.dueMade(told().status('i', 'i', 1).range(1, 'i', 'i', 1), "e.i", false, "e.", 2);
    }

    // "46 at 0 its first point is none of L, R, AL"

    private static void firstPoint() {
        for (char c : LETTERS.toCharArray()) {
            if ("ary".indexOf(c) >= 0) {
                dueRight("" + c);
            } else if (c != '-') {
                dueWrong("" + c, 0);
                dueWrong(c + "r", 0);
                dueWrong(c + "a", 0);
                dueWrong(c + "ar", 0);
            }
        }
        C.dueFault(told(), "n", false, 46, 0, 0, 1);
        C.dueMade(told(), "r", false, "r", 1);
        C.dueMade(told(), "y", false, "y", 1);
    }

    // "at the first point that is none of R AL AN EN ES CS ET ON BN NSM (of one that begins with R, AL), none of L EN ES
    // CS ET ON BN NSM (with L)"

    private static void pointsOfOneToTheRight() {
        for (char first : RIGHT.toCharArray()) {
            for (char c : LETTERS.toCharArray()) {
                String label = "" + first + c + first;
                if (c == 'a') {
                    dueWrong(label, 1);
                    dueWrong("" + first + c, 1);
                    dueWrong("" + first + first + c + c + first, 2);
                } else {
                    dueRight(label);
                }
            }
        }
        dueRight("ryryry");
    }

    private static void pointsOfOneToTheLeft() {
        for (char c : LETTERS.toCharArray()) {
            String label = "a" + c + "a";
            if ("ryn".indexOf(c) >= 0) {
                dueWrong(label, 1);
                dueWrong("a" + c, 1);
                dueWrong("aa" + c + c + "a", 2);
            } else {
                dueRight(label);
            }
        }
        C.dueFault(told(), "ar", false, 46, 0, 1, 1);
        C.dueFault(told(), "an", false, 46, 0, 1, 1);
    }

    // "at the last point that is not NSM, if it is none of R AL AN EN (none of L, EN)"

    private static void lastPoint() {
        for (char c : LETTERS.toCharArray()) {
            if (c == '-' || c == 'm') {
                continue;
            }
            for (char first : RIGHT.toCharArray()) {
                String label = "" + first + c;
                if ("ryne".indexOf(c) >= 0) {
                    dueRight(label);
                } else {
                    dueWrong(label, 1);
                }
            }
            if ("ae".indexOf(c) >= 0) {
                dueRight("a" + c);
            } else {
                dueWrong("a" + c, 1);
            }
        }
        C.dueMade(told(), "as.aom", false, "as.aom", 2);
    }

    private static void lastPointBeforeMarks() {
        for (String marks : new String[] {"m", "mm", "m".repeat(200)}) {
            for (String s : new String[] {"r", "y", "ry", "rn", "re", "yn", "ye", "a", "ae", "aa", "aoe"}) {
                dueRight(s + marks);
            }
            for (String s : new String[] {"rs", "rt", "ro", "rb", "yo", "as", "at", "ao", "ab"}) {
                dueWrong(s + marks, 1);
            }
            dueWrong("rmo" + marks, 2);
            dueWrong("ame" + "o" + marks, 3);
        }
        C.dueFault(told().range(1, 'x', 'x', 5), "r.rx", false, 46, 1, 1, 2);
        C.dueFault(told().range(1, 'x', 'x', 5), "r.ax", false, 46, 1, 1, 2);
    }

    // "at the first EN or AN that is another one of these two than the first of them (R, AL)"

    private static void otherNumber() {
        dueRight("rnn");
        dueRight("ree");
        dueRight("rnonrn");
        dueRight("reoere");
        dueWrong("ren", 2);
        dueWrong("rne", 2);
        dueWrong("rnne", 3);
        dueWrong("reen", 3);
        dueWrong("yrmenr", 4);
        dueWrong("rnoer", 3);
        dueWrong("rnene", 2);
        dueWrong("renen", 2);
        dueWrong("rneen", 2);
        dueWrong("renm", 2);
        dueRight("aeoe");
        dueWrong("aen", 2);
    }

    private static void labelsInOrder() {
        C.dueFault(told(), "ar.rs.e", false, 46, 0, 1, 3);
        C.dueFault(told(), "a.rs.e", false, 46, 1, 1, 3);
        C.dueFault(told(), "a..r.e", false, 46, 3, 0, 4);
        C.dueFault(told(), "e.a.r", false, 46, 0, 0, 3);
        C.dueFault(told(), ".".repeat(297) + "r.e", false, 46, 298, 0, 299);
        C.dueFault(told(), "r" + "r".repeat(298) + "a", false, 46, 0, 299, 1);
    }

    private static void orderInALabel() {
        dueWrong("oar", 0);
        dueWrong("enr", 0);
        dueWrong("rao", 1);
        dueWrong("rena", 3);
        dueWrong("rneo", 3);
        dueWrong("rneom", 3);
        dueWrong("aor", 2);
    }

    private static void whenAllLabelsAreLookedAt() {
        Told t = told().rank(1000, 9).range(0, 'k', 'k', 1);
        C.dueFault(t, "ra.c-", false, 42, 1, 1, 1);
        C.dueFault(t, "ra.k", false, 43, 1, 0, 1);
        C.dueFault(t, "ra.xn--b", false, 30, 1, 5, 1);
        C.dueFault(t, "ra..", true, 46, 0, 1, 3);
        C.dueFault(t, "ra." + "c".repeat(64), true, 46, 0, 1, 2);
        C.dueMade(t, "c.r." + "c".repeat(64), false, "c.r." + "c".repeat(64), 3);
        // What was decoded counts, as it was decoded.
        Told wide = NEW.copy().range(1, 1424, 1535, 1);
        C.dueFault(wide, "7." + Checks.coded(1488, 1489), false, 46, 0, 0, 2);
        C.dueFault(wide, "a." + Checks.coded(1488, 'a'), false, 46, 1, 1, 2);
        C.dueFault(wide, Checks.coded(252, 1488), true, 46, 0, 1, 1);
        C.dueMade(wide, Checks.of(1488, 1489) + ".\u00fc", true, "xn--4dbc.xn--tda", 2);
    }

    // "at first 0 .. 9 are EN, - is ES, all others L"

    private static void directionsAtFirst() {
        Told t = NEW.copy().range(1, 'r', 'r', 1);
        for (char digit : "0123456789".toCharArray()) {
            C.dueFault(t, "r." + digit, false, 46, 1, 0, 2);
            C.dueMade(t, "r.a" + digit + ".r" + digit, false, "r.a" + digit + ".r" + digit, 3);
        }
        C.dueMade(t, "r-r.a-a", false, "r-r.a-a", 2);
        C.dueFault(t, "r" + Checks.of(252), false, 46, 0, 1, 1);
        C.dueFault(t.copy().range(1, '-', '-', 0), "r-r", false, 46, 0, 1, 1);
        C.dueMade(NEW, "0.9-9", false, "0.9-9", 2);
    }
}
