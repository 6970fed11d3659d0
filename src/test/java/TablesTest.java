/** Promises 6 to 11: status, map, parts, rank, range, about. */
public final class TablesTest {
    private static final Checks C = new Checks();
    private static final Told NEW = new Told();
    private static final int TOP = Checks.TOP;
    private static final int LEAST = Integer.MIN_VALUE;
    private static final int MOST = Integer.MAX_VALUE;

    public static void main(String[] args) {
        statusFromOneToAnother();
        statusToldLaterCounts();
        statusOutOfRange();
        mapToOneToFour();
        mapOfPoints();
        mapToldLaterCounts();
        room200OfStatusAndMap();
        refusedTakesNoRoomOfStatus();
        partsOfPoints();
        partsOfLesserPoints();
        partsOfSyllables();
        partsToldAlready();
        partsOfTheSameTwo();
        partsOfOneAlone();
        room100OfParts();
        orderOfRefusedParts();
        rankWasBefore();
        rankOutOfRange();
        room100OfRanks();
        rangesOfAllKinds();
        rangesToldLaterCount();
        rangeOutOfRange();
        room200OfRanges();
        aboutPoints();
        aboutWhat();
        C.end();
    }

    private static int[] about(Names x, int what, int... points) {
        int[] answers = new int[points.length];
        for (int i = 0; i < points.length; i++) {
            answers[i] = x.about(points[i], what);
        }
        return answers;
    }

    private static void dueAbout(String what, Told told, int which, int[] points, int... want) {
        C.due(what, about(told.fresh(), which, points), want);
    }

    private static int[] are(int... points) {
        return points;
    }

    // 6: "STATUS 0, 1 or 3 of all points from one to another one: 1. -2 one is none of 0 .. 1114111, the first is above
    // the last, or the status is another one, -4 200 such things, and mappings, were told."

    private static void statusFromOneToAnother() {
        for (int status : are(0, 1, 3)) {
            C.due("6: status " + status, NEW, x -> x.status(200, 202, status), 1);
            int beside = status == 0 ? 3 : 0;
            Told told = NEW.copy().status(199, 203, beside).status(200, 202, status);
            dueAbout("6: from 200 to 202 " + status, told, 0, are(198, 199, 200, 201, 202, 203, 204),
                    0, beside, status, status, status, beside, 0);
        }
        C.due("6: one point", NEW, x -> x.status(200, 200, 3), 1);
        dueAbout("6: one point alone", NEW.copy().status(200, 200, 3), 0, are(199, 200, 201), 0, 3, 0);
        C.due("6: the first point", NEW, x -> x.status(0, 0, 0), 1);
        dueAbout("6: the first point", NEW.copy().status(0, 0, 0), 0, are(0, 1), 0, 3);
        C.due("6: the last point", NEW, x -> x.status(TOP, TOP, 3), 1);
        dueAbout("6: the last point", NEW.copy().status(TOP, TOP, 3), 0, are(TOP - 1, TOP), 0, 3);
        C.due("6: all points", NEW, x -> x.status(0, TOP, 1), 1);
        dueAbout("6: all points", NEW.copy().status(0, TOP, 1), 0, are(0, 'A', 'a', 127, 128, 55295, 57344, TOP),
                1, 1, 1, 1, 1, 1, 1, 1);
        C.due("6: none of the points, but of 0 .. 1114111", NEW, x -> x.status(55296, 57343, 3), 1);
        dueAbout("6: about those", NEW.copy().status(55296, 57343, 3), 0, are(55295, 57344), 0, 0);
        dueAbout("6: about the points at its ends", NEW.copy().status(55295, 57344, 3), 0,
                are(55294, 55295, 57344, 57345), 0, 3, 3, 0);
    }

    private static void statusToldLaterCounts() {
        Told all = NEW.copy().status(0, TOP, 3).status('a', 'b', 1).status('b', 'b', 0);
        dueAbout("6: later counts", all, 0, are('`', 'a', 'b', 'c', TOP), 3, 1, 0, 3, 3);
        dueAbout("6: the same again", NEW.copy().status('b', 'b', 0).status('b', 'b', 3), 0, are('b'), 3);
        dueAbout("6: a wider one over it", NEW.copy().status('b', 'b', 1).status('a', 'c', 3), 0, are('b'), 3);
        Told capital = NEW.copy().status('A', 'A', 0);
        dueAbout("6: a capital is VALID", capital, 0, are('@', 'A', 'B'), 3, 0, 2);
        C.dueMade(capital, "Ab", false, "Ab", 1);
        C.dueMade(NEW.copy().status('A', 'A', 1), "Ab", false, "b", 1);
        C.dueFault(NEW.copy().status('A', 'A', 3), "Ab", false, 20, 0, 0, 0);
    }

    private static void statusOutOfRange() {
        Told some = NEW.copy().status(200, 200, 3);
        int[][] wrong = {{-1, 4}, {-1, -1}, {LEAST, 4}, {0, TOP + 1}, {TOP + 1, TOP + 1}, {0, MOST}, {MOST, MOST},
            {5, 4}, {1, 0}, {TOP, TOP - 1}, {TOP, 0}, {MOST, LEAST}, {LEAST, MOST}, {4, -1}, {57343, 55296}};
        for (int[] w : wrong) {
            C.refused("6: status from " + w[0] + " to " + w[1], some, x -> x.status(w[0], w[1], 3), -2, 4, 5, 0, TOP);
        }
        for (int status : are(LEAST, -3, -1, 2, 4, 5, MOST)) {
            C.refused("6: status " + status, some, x -> x.status(0, 300, status), -2, 5);
        }
    }

    // 7: "A point is MAPPED to the row at hand: 1. -2 it is none of the POINTS, or the row has not 1 .. 4 points, -4 as
    // for status()."

    private static void mapToOneToFour() {
        String letters = "wxyz";
        for (int n = 1; n <= 4; n++) {
            String to = letters.substring(0, n);
            C.due("7: map to " + n, NEW.copy().row(Checks.points(to)), x -> x.map(200), 1);
            C.dueMade(NEW.copy().map(200, to), "b\u00c8c", false, "b" + to + "c", 1);
        }
        C.refused("7: map to none", NEW, x -> x.map(200), -2, 200);
        C.refused("7: map to none, the row was emptied", NEW.copy().row('a').row(), x -> x.map(200), -2, 200);
        C.refused("7: map to five", NEW.copy().row(Checks.points("vwxyz")), x -> x.map(200), -2, 200);
        C.refused("7: map to 300", NEW.copy().rowOf(300, 'a'), x -> x.map(200), -2, 200);
        C.dueMade(NEW.copy().map(200, 0, TOP).status(0, 0, 0), "\u00c8", false, Checks.of(0, TOP), 1);
    }

    private static void mapOfPoints() {
        Told some = NEW.copy().row('y');
        for (int p : Checks.LAST_POINTS) {
            C.due("7: map(" + p + ")", some, x -> x.map(p), 1);
            dueAbout("7: about(" + p + ")", NEW.copy().map(p, 'y'), 0, are(p), 2);
            C.dueMade(NEW.copy().map(p, 'y'), "a" + Checks.of(p), false, "ay", 1);
        }
        dueAbout("7: beside it", NEW.copy().map(200, 'y'), 0, are(199, 200, 201), 0, 2, 0);
        for (int p : Checks.NO_POINTS) {
            C.refused("7: map(" + p + ")", some, x -> x.map(p), -2, 55295, 57344);
        }
        Names x = NEW.copy().row('y').fresh();
        x.map(200);
        C.due("7: the row as it was", Checks.row(x), 'y');
        Checks.row(x, 'z');
        Checks.text(x, "\u00c8");
        x.make(false);
        C.due("7: to the row as it was then", Checks.made(x), 'y');
    }

    private static void mapToldLaterCounts() {
        C.dueMade(NEW.copy().map('a', "y").map('a', "zz"), "aba", false, "zzbzz", 1);
        C.dueMade(NEW.copy().map('a', "zz").map('a', "y"), "aba", false, "yby", 1);
        C.dueMade(NEW.copy().map(200, "y").status(200, 200, 0), "\u00c8", false, "\u00c8", 1);
        C.dueMade(NEW.copy().status(200, 200, 3).map(200, "y"), "\u00c8", false, "y", 1);
        C.dueMade(NEW.copy().map(200, "y").status(199, 201, 1), "a\u00c8", false, "a", 1);
        C.dueFault(NEW.copy().map(200, "y").status(0, TOP, 3), "\u00c8", false, 20, 0, 0, 0);
        C.dueMade(NEW.copy().map('A', "z"), "ABa", false, "zba", 1);
        C.dueMade(NEW.copy().map('q', "a").map('a', "q").status('a', 'a', 0), "qAa", false, "aaa", 1);
        C.dueFault(NEW.copy().map('q', "a").map('a', "z"), "bq", false, 44, 0, 1, 0);
        C.dueFault(NEW.copy().map('a', "z"), "A", false, 44, 0, 0, 0);
    }

    private static Told statuses(int statuses, int mappings) {
        Told told = NEW.copy().row('k');
        for (int i = 0; i < statuses; i++) {
            told.status(1000 + i, 1000 + i, 3);
        }
        for (int i = 0; i < mappings; i++) {
            int p = 2000 + i;
            told.then(x -> x.map(p));
        }
        return told;
    }

    private static void room200OfStatusAndMap() {
        for (int mappings : are(0, 1, 100, 199)) {
            Told last = statuses(199 - mappings, mappings);
            C.due("6: the 200th, behind mappings " + mappings, last, x -> x.status(5, 5, 0), 1);
            C.due("7: the 200th, behind mappings " + mappings, last, x -> x.map(5), 1);
        }
        for (int mappings : are(0, 1, 100, 200)) {
            Told full = statuses(200 - mappings, mappings);
            C.refused("6: the 201st, behind mappings " + mappings, full, x -> x.status(5, 5, 0), -4, 5);
            C.refused("6: of what was told already", full, x -> x.status(1000, 1000, 0), -4, 1000);
            C.refused("7: the 201st, behind mappings " + mappings, full, x -> x.map(5), -4, 5);
            C.refused("7: of what was told already", full, x -> x.map(2000), -4, 2000);
        }
        dueAbout("6: the first and the last of 200", statuses(200, 0), 0, are(999, 1000, 1199, 1200), 0, 3, 3, 0);
        C.dueMade(statuses(0, 200), Checks.of(1999, 2000, 2199, 2200), false, Checks.of(1999, 'k', 'k', 2200), 1);
        Told full = statuses(200, 0);
        C.refused("6: -2 before -4, span", full, x -> x.status(1, 0, 0), -2);
        C.refused("6: -2 before -4, status", full, x -> x.status(0, 1, 2), -2);
        C.refused("7: -2 before -4, point", full, x -> x.map(-5), -2);
        C.refused("7: -2 before -4, row", full.copy().row(), x -> x.map(5), -2);
        C.due("10: ranges have room of their own", full, x -> x.range(0, 1, 2, 1), 1);
        C.due("9: ranks too", full, x -> x.rank(200, 1), 0);
        C.due("8: parts too", full, x -> x.parts(200, 1, 1, false), 1);
    }

    private static void refusedTakesNoRoomOfStatus() {
        Told last = statuses(199, 0);
        C.refused("6: -2 takes no room", last, x -> x.status(1, 0, 0), -2);
        C.refused("6: -2 takes no room, status", last, x -> x.status(0, 1, 2), -2);
        C.refused("7: -2 takes no room", last, x -> x.map(-5), -2);
        C.refused("7: -2 takes no room, row", last.copy().row(), x -> x.map(5), -2);
        C.due("7: the 200th after one that was refused", last.copy().then(x -> x.map(-5)), x -> x.map(5), 1);
    }

    // 8: "A point comes apart into a, and b (0: into a alone); whether it is EXCLUDED: how many are told. -2 one is none
    // of the POINTS, a or b is not less than the point, a is 0, the point is below 128, or one of all is a syllable, or
    // 4352 .. 4370, 4449 .. 4469, 4520 .. 4546, -3 it is told already, or another one comes together of these two,
    // neither being EXCLUDED, -4 there are 100."

    private static void dueParts(int point, int a, int b, int want) {
        for (boolean excluded : new boolean[] {false, true}) {
            String call = "8: parts(" + point + ", " + a + ", " + b + ", " + excluded + ")";
            if (want < 0) {
                C.refused(call, NEW, x -> x.parts(point, a, b, excluded), want, point, a, b);
            } else {
                C.due(call, NEW, x -> x.parts(point, a, b, excluded), want);
                C.dueRow(call + ", and apart", NEW.copy().then(x -> x.parts(point, a, b, excluded)).row(point),
                        x -> x.form(0), b == 0 ? are(a) : are(a, b));
            }
        }
    }

    private static void partsOfPoints() {
        dueParts(128, 127, 126, 1);
        dueParts(127, 126, 125, -2);
        dueParts(97, 65, 66, -2);
        dueParts(1, 1, 0, -2);
        dueParts(0, 0, 0, -2);
        dueParts(55295, 55294, 97, 1);
        dueParts(57344, 55295, 97, 1);
        dueParts(57345, 57344, 57344, 1);
        dueParts(TOP, TOP - 1, TOP - 1, 1);
        for (int p : Checks.NO_POINTS) {
            dueParts(p, 97, 98, -2);
            dueParts(TOP, p, 98, -2);
            dueParts(TOP, 97, p, -2);
        }
        dueParts(LEAST + 1, LEAST, LEAST, -2);
    }

    private static void partsOfLesserPoints() {
        dueParts(200, 199, 199, 1);
        dueParts(200, 200, 5, -2);
        dueParts(200, 201, 5, -2);
        dueParts(200, 5, 200, -2);
        dueParts(200, 5, 201, -2);
        dueParts(200, 1, 1, 1);
        dueParts(200, 1, 0, 1);
        dueParts(200, 0, 1, -2);
        dueParts(200, 0, 0, -2);
        dueParts(200, 199, 0, 1);
        dueParts(200, 200, 0, -2);
        dueParts(197, 65, 778, -2);
    }

    private static void partsOfSyllables() {
        int[] of = {4352, 4353, 4369, 4370, 4449, 4450, 4468, 4469, 4520, 4521, 4545, 4546, 44032, 44033, 50000, 55202,
            55203};
        int[] others = {4351, 4371, 4448, 4470, 4519, 4547, 44031, 55204};
        for (int p : of) {
            dueParts(p, 97, 98, -2);
            dueParts(60000, p, 98, -2);
            dueParts(60000, p, 0, -2);
            dueParts(60000, 97, p, -2);
        }
        for (int p : others) {
            dueParts(p, 97, 98, 1);
            dueParts(60000, p, 98, 1);
            dueParts(60000, 97, p, 1);
        }
    }

    private static void partsToldAlready() {
        Told one = NEW.copy().parts(1000, 97, 768, false);
        Told excluded = NEW.copy().parts(1000, 97, 768, true);
        for (Told told : new Told[] {one, excluded}) {
            C.refused("8: told already", told, x -> x.parts(1000, 98, 769, false), -3, 1000);
            C.refused("8: told already, EXCLUDED", told, x -> x.parts(1000, 98, 769, true), -3, 1000);
            C.refused("8: told already, into one", told, x -> x.parts(1000, 98, 0, false), -3, 1000);
            C.refused("8: told already, the same", told, x -> x.parts(1000, 97, 768, true), -3, 1000);
            C.due("8: the point before", told, x -> x.parts(999, 98, 769, false), 2);
            C.due("8: the point behind", told, x -> x.parts(1001, 98, 769, false), 2);
        }
    }

    private static void partsOfTheSameTwo() {
        Told one = NEW.copy().parts(1000, 97, 768, false);
        C.refused("8: the same two", one, x -> x.parts(1001, 97, 768, false), -3, 1000, 1001);
        C.due("8: the same two, this one EXCLUDED", one, x -> x.parts(1001, 97, 768, true), 2);
        C.due("8: another first", one, x -> x.parts(1001, 98, 768, false), 2);
        C.due("8: another second", one, x -> x.parts(1001, 97, 769, false), 2);
        C.due("8: the other way round", one, x -> x.parts(1001, 768, 97, false), 2);
        C.due("8: the first alone", one, x -> x.parts(1001, 97, 0, false), 2);
        Told excluded = NEW.copy().parts(1000, 97, 768, true);
        C.due("8: the same two, the other EXCLUDED", excluded, x -> x.parts(1001, 97, 768, false), 2);
        C.due("8: the same two, both EXCLUDED", excluded, x -> x.parts(1001, 97, 768, true), 2);
        Told both = excluded.copy().parts(1001, 97, 768, false);
        C.refused("8: the same two, one of both not EXCLUDED", both, x -> x.parts(1002, 97, 768, false), -3, 1001, 1002);
        C.due("8: the same two, EXCLUDED again", both, x -> x.parts(1002, 97, 768, true), 3);
        C.dueRow("8: these two come together", both.copy().row(97, 768), x -> x.form(1), 1001);
        C.dueRow("8: of two EXCLUDED none", excluded.copy().row(97, 768), x -> x.form(1), 97, 768);
    }

    private static void partsOfOneAlone() {
        Told one = NEW.copy().parts(1000, 97, 0, false);
        C.due("8: the same one alone", one, x -> x.parts(1001, 97, 0, false), 2);
        C.due("8: the same one alone, EXCLUDED", one, x -> x.parts(1001, 97, 0, true), 2);
        C.refused("8: told already, one alone", one, x -> x.parts(1000, 97, 0, false), -3, 1000);
        C.dueRow("8: one alone comes together with nothing", one.copy().row(97, 0), x -> x.form(1), 97, 0);
        C.dueRow("8: and not by itself", one.copy().row(97), x -> x.form(1), 97);
        C.dueRow("8: but comes apart", one.copy().row(1000), x -> x.form(1), 97);
    }

    private static Told parts(int count) {
        Told told = NEW.copy();
        for (int i = 0; i < count; i++) {
            told.parts(1000 + i, 97, 300 + i, false);
        }
        return told;
    }

    private static void room100OfParts() {
        Names x = NEW.fresh();
        for (int i = 0; i < 100; i++) {
            C.due("8: how many are told", x.parts(1000 + i, 97, 300 + i, i % 3 == 0), i + 1);
        }
        C.due("8: 100 are told", x.parts(2000, 97, 98, false), -4);
        C.due("8: the 100th", parts(99), n -> n.parts(2000, 97, 98, true), 100);
        C.refused("8: the 101st", parts(100), n -> n.parts(2000, 97, 98, false), -4, 2000);
        C.refused("8: the 101st, EXCLUDED", parts(100), n -> n.parts(2000, 97, 98, true), -4, 2000);
        C.refused("8: the 101st, into one", parts(100), n -> n.parts(2000, 97, 0, false), -4, 2000);
        C.dueRow("8: the first and the last of 100", parts(100).row(1000, 1099, 1100), n -> n.form(0),
                97, 300, 97, 399, 1100);
        C.dueRow("8: and together", parts(100).row(97, 300, 97, 399, 97, 400), n -> n.form(1),
                1000, 1099, 97, 400);
        C.refused("8: -2 takes no room", parts(99), n -> n.parts(100, 97, 98, false), -2);
        C.refused("8: -3 takes no room", parts(99), n -> n.parts(1000, 97, 98, false), -3);
        C.due("8: the 100th after one that was refused", parts(99).then(n -> n.parts(1000, 97, 98, false)),
                n -> n.parts(2000, 97, 98, false), 100);
    }

    private static void orderOfRefusedParts() {
        Told one = parts(1);
        C.refused("8: -2 before -3, told already", one, x -> x.parts(1000, 1000, 300, false), -2, 1000);
        C.refused("8: -2 before -3, a is 0", one, x -> x.parts(1000, 0, 300, false), -2, 1000);
        C.refused("8: -2 before -3, the same two", one, x -> x.parts(127, 97, 300, false), -2, 1000);
        C.refused("8: -2 before -3, the same two of a syllable", one, x -> x.parts(44032, 97, 300, false), -2, 1000);
        Told full = parts(100);
        C.refused("8: -2 before -4", full, x -> x.parts(127, 97, 98, false), -2);
        C.refused("8: -3 before -4, told already", full, x -> x.parts(1050, 97, 98, false), -3, 1050);
        C.refused("8: -3 before -4, the same two", full, x -> x.parts(2000, 97, 350, false), -3, 2000);
    }

    // 9: "The RANK of a point: what it was. -2 it is none of the POINTS, or below 128, or the rank not 0 .. 254, -4 100
    // other points have one that was told."

    private static void rankWasBefore() {
        for (int r : are(0, 1, 9, 253, 254)) {
            C.due("9: rank " + r + ", it was 0", NEW, x -> x.rank(200, r), 0);
            C.due("9: it was " + r, NEW.copy().rank(200, r), x -> x.rank(200, 7), r);
            dueAbout("9: it is " + r, NEW.copy().rank(200, r), 1, are(199, 200, 201), 0, r, 0);
        }
        for (int p : are(128, 129, 4352, 44032, 55203, 55294, 55295, 57344, 57345, TOP - 1, TOP)) {
            C.due("9: rank of " + p, NEW, x -> x.rank(p, 3), 0);
            dueAbout("9: about(" + p + ", 1)", NEW.copy().rank(p, 3), 1, are(p), 3);
        }
        dueAbout("9: told again", NEW.copy().rank(200, 254).rank(200, 0), 1, are(200), 0);
        C.due("9: what it was, of three", NEW.copy().rank(200, 254).rank(200, 0), x -> x.rank(200, 1), 0);
    }

    private static void rankOutOfRange() {
        Told some = NEW.copy().rank(200, 5);
        for (int p : Checks.join(Checks.NO_POINTS, are(0, 'a', 126, 127))) {
            C.refused("9: rank of " + p, some, x -> x.rank(p, 6), -2, p);
        }
        for (int r : are(LEAST, -254, -1, 255, 256, MOST)) {
            C.refused("9: rank " + r, some, x -> x.rank(200, r), -2, 200);
            C.refused("9: rank " + r + " of another", some, x -> x.rank(128, r), -2, 128);
        }
    }

    private static Told ranks(int count, int rank) {
        Told told = NEW.copy();
        for (int i = 0; i < count; i++) {
            told.rank(1000 + i, rank);
        }
        return told;
    }

    private static void room100OfRanks() {
        C.due("9: the 100th", ranks(99, 5), x -> x.rank(3000, 6), 0);
        C.refused("9: the 101st", ranks(100, 5), x -> x.rank(3000, 6), -4, 3000);
        C.refused("9: the 101st, rank 0", ranks(100, 5), x -> x.rank(3000, 0), -4, 3000);
        C.refused("9: the 101st, all were told 0", ranks(100, 0), x -> x.rank(3000, 6), -4, 3000);
        C.due("9: 99 others, the last", ranks(100, 5), x -> x.rank(1099, 7), 5);
        C.due("9: 99 others, the first", ranks(100, 5), x -> x.rank(1000, 7), 5);
        C.due("9: 99 others, one that was told 0", ranks(100, 0), x -> x.rank(1000, 7), 0);
        C.due("9: the same again and again", NEW.copy().then(TablesTest::rankTold300Times), x -> x.rank(201, 1), 0);
        dueAbout("9: the first and the last of 100", ranks(100, 5), 1, are(999, 1000, 1099, 1100), 0, 5, 5, 0);
        C.refused("9: -2 before -4, rank", ranks(100, 5), x -> x.rank(3000, 255), -2, 3000);
        C.refused("9: -2 before -4, point", ranks(100, 5), x -> x.rank(127, 5), -2);
        C.refused("9: -2 takes no room", ranks(99, 5), x -> x.rank(3000, 255), -2, 3000);
        C.due("9: the 100th after one that was refused", ranks(99, 5).then(x -> x.rank(3000, 255)),
                x -> x.rank(3001, 6), 0);
    }

    private static void rankTold300Times(Names x) {
        for (int i = 0; i < 300; i++) {
            x.rank(200, i % 255);
        }
    }

    // 10: "Kind 0: points from one to another one are MARKS (v is 1), or none (0); 1 their DIRECTION is v; 2 their
    // JOINING is v: 1. -2 the kind, v, or one of 0 .. 1114111, or the first is above the last, -4 200 such things were
    // told."

    private static final int[] HIGHEST = {1, 10, 4};

    private static void rangesOfAllKinds() {
        for (int kind = 0; kind < 3; kind++) {
            int k = kind;
            for (int v = 0; v <= HIGHEST[kind]; v++) {
                int value = v;
                String call = "10: range(" + k + ", 200, 202, " + v + ")";
                C.due(call, NEW, x -> x.range(k, 200, 202, value), 1);
                int other = v == 0 ? 1 : 0;
                Told told = NEW.copy().range(k, 199, 203, other).range(k, 200, 202, v);
                dueAbout(call, told, 2 + k, are(198, 199, 200, 201, 202, 203, 204), 0, other, v, v, v, other, 0);
            }
            int most = HIGHEST[kind];
            dueAbout("10: the first point", NEW.copy().range(k, 0, 0, most), 2 + k, are(0, 1), most, 0);
            dueAbout("10: the last point", NEW.copy().range(k, TOP, TOP, most), 2 + k, are(TOP - 1, TOP), 0, most);
            dueAbout("10: all points", NEW.copy().range(k, 0, TOP, most), 2 + k, are(0, '5', '-', 55295, 57344, TOP),
                    most, most, most, most, most, most);
            C.due("10: none of the points, but of 0 .. 1114111", NEW, x -> x.range(k, 55296, 57343, most), 1);
            dueAbout("10: at its ends", NEW.copy().range(k, 55295, 57344, most), 2 + k,
                    are(55294, 55295, 57344, 57345), 0, most, most, 0);
            Told told = NEW.copy().range(k, 200, 200, 1);
            for (int what = 0; what < 5; what++) {
                dueAbout("10: of others none is told", told, what, are(200), what == 2 + k ? 1 : 0);
            }
        }
    }

    private static void rangesToldLaterCount() {
        Told marks = NEW.copy().range(0, 768, 879, 1).range(0, 800, 801, 0);
        dueAbout("10: marks", marks, 2, are(767, 768, 799, 800, 801, 802, 879, 880), 0, 1, 1, 0, 0, 1, 1, 0);
        Told directions = NEW.copy().range(1, 0, TOP, 10).range(1, '5', '5', 0);
        dueAbout("10: directions", directions, 3, are('4', '5', '6', '-', 'a'), 10, 0, 10, 10, 10);
        Told joinings = NEW.copy().range(2, 300, 300, 4).range(2, 299, 301, 3).range(1, 300, 300, 2);
        dueAbout("10: joinings", joinings, 4, are(298, 299, 300, 301, 302), 0, 3, 3, 3, 0);
    }

    private static void rangeOutOfRange() {
        Told some = NEW.copy().range(0, 200, 200, 1).range(1, 200, 200, 1).range(2, 200, 200, 1);
        for (int kind : are(LEAST, -1, 3, 4, MOST)) {
            for (int v : are(-1, 0, 1)) {
                C.refused("10: kind " + kind, some, x -> x.range(kind, 200, 201, v), -2);
            }
        }
        for (int kind = 0; kind < 3; kind++) {
            int k = kind;
            for (int v : are(LEAST, -1, HIGHEST[kind] + 1, HIGHEST[kind] + 2, 11, MOST)) {
                C.refused("10: range(" + k + ", 200, 201, " + v + ")", some, x -> x.range(k, 200, 201, v), -2);
            }
            int[][] wrong = {{-1, 4}, {LEAST, 4}, {0, TOP + 1}, {TOP + 1, TOP + 1}, {0, MOST}, {201, 200}, {1, 0},
                {TOP, TOP - 1}, {MOST, LEAST}, {LEAST, MOST}};
            for (int[] w : wrong) {
                C.refused("10: kind " + k + " from " + w[0] + " to " + w[1], some, x -> x.range(k, w[0], w[1], 0), -2);
            }
        }
    }

    /** So many ranges, kind by kind in turn, or of one kind alone. */
    private static Told ranges(int count, int kinds) {
        Told told = NEW.copy();
        for (int i = 0; i < count; i++) {
            told.range(i % kinds, 2000 + i, 2000 + i, 1);
        }
        return told;
    }

    private static void room200OfRanges() {
        for (int kinds = 1; kinds <= 3; kinds++) {
            for (int k = 0; k < 3; k++) {
                int kind = k;
                C.due("10: the 200th", ranges(199, kinds), x -> x.range(kind, 300, 300, 1), 1);
                C.refused("10: the 201st", ranges(200, kinds), x -> x.range(kind, 300, 300, 1), -4, 300);
            }
        }
        dueAbout("10: the first and the last of 200", ranges(200, 1), 2, are(1999, 2000, 2199, 2200), 0, 1, 1, 0);
        Told full = ranges(200, 3);
        C.refused("10: of what was told already", full, x -> x.range(0, 2000, 2000, 0), -4, 2000);
        C.refused("10: -2 before -4, kind", full, x -> x.range(3, 1, 1, 0), -2);
        C.refused("10: -2 before -4, v", full, x -> x.range(0, 1, 1, 2), -2);
        C.refused("10: -2 before -4, span", full, x -> x.range(0, 2, 1, 1), -2);
        C.refused("10: -2 takes no room", ranges(199, 3), x -> x.range(0, 2, 1, 1), -2);
        C.due("10: the 200th after one that was refused", ranges(199, 3).then(x -> x.range(0, 2, 1, 1)),
                x -> x.range(0, 1, 2, 1), 1);
        C.due("6: status has room of its own", full, x -> x.status(1, 2, 1), 1);
        C.due("7: mappings too", full.copy().row('y'), x -> x.map(200), 1);
    }

    // 11: "Of a point: what = 0 STATUS, 1 RANK, 2 whether it is a MARK, 3 DIRECTION, 4 JOINING. -1 it is none of the
    // POINTS, -2 no such what."

    private static void aboutPoints() {
        Told told = NEW.copy().status(0, TOP, 1).range(0, 0, TOP, 1).range(1, 0, TOP, 7).range(2, 0, TOP, 3);
        for (int p : Checks.LAST_POINTS) {
            Told ranked = told.copy().rank(p, 17);
            Names x = ranked.fresh();
            int[] answers = {x.about(p, 0), x.about(p, 1), x.about(p, 2), x.about(p, 3), x.about(p, 4)};
            C.due("11: about " + p, answers, 1, p < 128 ? 0 : 17, 1, 7, 3);
        }
        for (int p : Checks.NO_POINTS) {
            for (int what : are(LEAST, -1, 0, 1, 2, 3, 4, 5, MOST)) {
                C.refused("11: about(" + p + ", " + what + ")", told, x -> x.about(p, what), -1);
            }
        }
    }

    private static void aboutWhat() {
        Told told = NEW.copy().status(200, 200, 1).rank(200, 17).range(0, 200, 200, 1).range(1, 200, 200, 7)
                .range(2, 200, 200, 3);
        for (int what = 0; what < 5; what++) {
            dueAbout("11: what = " + what, told, what, are(199, 200, 201), 0, are(1, 17, 1, 7, 3)[what], 0);
        }
        for (int what : are(LEAST, -2, -1, 5, 6, MOST)) {
            C.refused("11: what = " + what, told, x -> x.about(200, what), -2);
            C.refused("11: what = " + what + " of 0", told, x -> x.about(0, what), -2);
        }
    }
}
