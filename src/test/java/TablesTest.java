/** Promises 6 to 11: status, map, parts, rank, range, about. */
public final class TablesTest {
    private static final Checks C = new Checks();
    private static final int TOP = 1114111;

    public static void main(String[] args) {
        status();
        map();
        roomOfStatusAndMap();
        parts();
        partsTold();
        roomOfParts();
        rank();
        range();
        about();
        C.end();
    }

    private static void status() {
        WideNames x = new WideNames();
        C.due("6: status of all", x.status(0, TOP, 3), 1);
        C.due("6: about(a, 0)", x.about('a', 0), 3);
        C.due("6: about the last", x.about(TOP, 0), 3);
        C.due("6: later counts", x.status('a', 'b', 1), 1);
        C.due("6: about(a, 0)", x.about('a', 0), 1);
        C.due("6: about(b, 0)", x.about('b', 0), 1);
        C.due("6: about(c, 0)", x.about('c', 0), 3);
        C.due("6: VALID again", x.status('b', 'b', 0), 1);
        C.due("6: about(b, 0)", x.about('b', 0), 0);
        C.due("6: a capital is VALID", x.status('A', 'A', 0), 1);
        C.due("6: about(A, 0)", x.about('A', 0), 0);
        C.due("6: in the gap", x.status(55296, 57343, 0), 1);
        C.due("6: first above last", x.status(5, 4, 0), -2);
        C.due("6: first -1", x.status(-1, 4, 0), -2);
        C.due("6: last above all", x.status(0, TOP + 1, 0), -2);
        C.due("6: first above all", x.status(TOP + 1, TOP + 1, 0), -2);
        for (int status : new int[] {-1, 2, 4, Integer.MAX_VALUE, Integer.MIN_VALUE}) {
            C.due("6: status " + status, x.status(0, 5, status), -2);
        }
        C.due("6: refusals change nothing", x.about(3, 0), 3);
    }

    private static void map() {
        WideNames x = Checks.row(new WideNames(), "st");
        C.due("7: map", x.map(64262), 1);
        C.due("7: about, MAPPED", x.about(64262, 0), 2);
        C.due("7: the row is as it was", Checks.row(x), 's', 't');
        C.dueMade(x, "a\ufb06b", false, "astb", 1);
        x.status(64262, 64262, 0);
        C.due("7: told later, VALID", x.about(64262, 0), 0);
        C.dueMade(x, "a\ufb06b", false, "a\ufb06b", 1);
        Checks.row(x, "wxyz");
        C.due("7: to four", x.map('a'), 1);
        C.dueMade(x, "ab", false, "wxyzb", 1);
        Checks.row(x, "q");
        C.due("7: told later", x.map('a'), 1);
        C.dueFault(x, "Aab", false, 44, 0, 0, 0);
        C.dueMade(x, "aab", false, "qqb", 1);
        Checks.row(x, "a");
        C.due("7: to another that is mapped, once", x.map('q'), 1);
        x.status('a', 'a', 0);
        C.dueMade(x, "qA", false, "aa", 1);
        for (int p : new int[] {-1, 55296, 57343, TOP + 1, Integer.MIN_VALUE}) {
            C.due("7: map(" + p + ")", x.map(p), -2);
        }
        C.due("7: row of five", Checks.row(x, "vwxyz").map('c'), -2);
        C.due("7: empty row", Checks.row(x).length == 5 && x.add(-1) == 0 ? x.map('c') : 0, -2);
        C.due("7: refusals change nothing", x.about('c', 0), 0);
    }

    private static void roomOfStatusAndMap() {
        WideNames x = Checks.row(new WideNames(), "k");
        for (int i = 0; i < 100; i++) {
            C.due("6: status " + i, x.status(1000, 2000, 3), 1);
            C.due("7: map " + i, x.map(3000 + i), 1);
        }
        C.due("6: 200 were told", x.status(1000, 1000, 0), -4);
        C.due("7: 200 were told", x.map(5000), -4);
        C.due("6: -2 before -4", x.status(1, 0, 0), -2);
        C.due("7: -2 before -4", x.map(-5), -2);
        C.due("6: as it was", x.about(1000, 0), 3);
        C.due("7: as it was", x.about(5000, 0), 0);
        C.due("7: the last one told", x.about(3099, 0), 2);
        C.due("10: ranges have room of their own", x.range(0, 1, 2, 1), 1);
        C.dueMade(x, "\u0c1b", false, "k", 1);
    }

    private static int partsOf(int point, int a, int b) {
        return new WideNames().parts(point, a, b, false);
    }

    private static void parts() {
        C.due("8: of one", partsOf(8491, 197, 0), 1);
        C.due("8: of two", partsOf(7841, 97, 803), 1);
        C.due("8: the least point", partsOf(128, 127, 127), 1);
        C.due("8: the last point", partsOf(TOP, TOP - 1, TOP - 1), 1);
        C.due("8: point 127", partsOf(127, 5, 6), -2);
        C.due("8: a not less", partsOf(200, 200, 5), -2);
        C.due("8: b not less", partsOf(200, 5, 200), -2);
        C.due("8: b above", partsOf(197, 65, 778), -2);
        C.due("8: a is 0", partsOf(200, 0, 5), -2);
        C.due("8: both are 0", partsOf(200, 0, 0), -2);
        C.due("8: a below 0", partsOf(200, -1, 5), -2);
        C.due("8: b below 0", partsOf(200, 5, -1), -2);
        C.due("8: point above all", partsOf(TOP + 1, 5, 5), -2);
        C.due("8: point below 0", partsOf(-1, 5, 5), -2);
        C.due("8: point in the gap", partsOf(55296, 5, 5), -2);
        C.due("8: a in the gap", partsOf(60000, 57343, 5), -2);
        C.due("8: b in the gap", partsOf(60000, 5, 55296), -2);
        int[] ofSyllables = {4352, 4370, 4449, 4469, 4520, 4546, 44032, 50000, 55203};
        int[] others = {4351, 4371, 4448, 4470, 4519, 4547, 44031, 55204};
        for (int p : ofSyllables) {
            C.due("8: parts of " + p, partsOf(p, 97, 98), -2);
            C.due("8: a = " + p, partsOf(60000, p, 98), -2);
            C.due("8: b = " + p, partsOf(60000, 97, p), -2);
        }
        for (int p : others) {
            C.due("8: parts of " + p, partsOf(p, 97, 98), 1);
            C.due("8: a = " + p, partsOf(60000, p, 98), 1);
            C.due("8: b = " + p, partsOf(60000, 97, p), 1);
        }
    }

    private static void partsTold() {
        WideNames x = new WideNames();
        C.due("8: first", x.parts(1000, 97, 768, false), 1);
        C.due("8: told already", x.parts(1000, 98, 768, false), -3);
        C.due("8: told already, EXCLUDED", x.parts(1000, 98, 768, true), -3);
        C.due("8: told already, but out of range", x.parts(1000, 1000, 768, true), -2);
        C.due("8: the same two", x.parts(1001, 97, 768, false), -3);
        C.due("8: the same two, this one EXCLUDED", x.parts(1001, 97, 768, true), 2);
        C.due("8: two EXCLUDED", x.parts(1002, 98, 768, true), 3);
        C.due("8: the same two, the other EXCLUDED", x.parts(1003, 98, 768, false), 4);
        C.due("8: the same two, one of others not EXCLUDED", x.parts(1004, 98, 768, false), -3);
        C.due("8: the other way round", x.parts(1004, 768, 98, false), 5);
        C.due("8: one alone", x.parts(1005, 97, 0, false), 6);
        C.due("8: the same one alone", x.parts(1006, 97, 0, false), 7);
        C.due("8: the first of two together", x.form(1), 0);
        Checks.row(x, 97, 768, 98, 768).form(1);
        C.due("8: come together", Checks.row(x), 1000, 1003);
        Checks.row(x, 97, 0).form(1);
        C.due("8: one alone does not come together with point 0", Checks.row(x), 97, 0);
    }

    private static void roomOfParts() {
        WideNames x = new WideNames();
        for (int i = 0; i < 100; i++) {
            C.due("8: parts " + i, x.parts(1000 + i, 200 + i, 0, false), i + 1);
        }
        C.due("8: 100 are told", x.parts(2000, 97, 98, false), -4);
        C.due("8: -3 before -4", x.parts(1050, 97, 98, false), -3);
        C.due("8: -2 before -4", x.parts(100, 97, 98, false), -2);
        Checks.row(x, 1099, 2000).form(0);
        C.due("8: the last one told", Checks.row(x), 299, 2000);
    }

    private static void rank() {
        WideNames x = new WideNames();
        C.due("9: rank was 0", x.rank(128, 254), 0);
        C.due("9: rank was 254", x.rank(128, 0), 254);
        C.due("9: rank was 0 again", x.rank(128, 1), 0);
        C.due("9: about", x.about(128, 1), 1);
        for (int p : new int[] {-1, 0, 127, 55296, 57343, TOP + 1}) {
            C.due("9: rank of " + p, x.rank(p, 5), -2);
        }
        for (int r : new int[] {-1, 255, Integer.MAX_VALUE, Integer.MIN_VALUE}) {
            C.due("9: rank " + r, x.rank(128, r), -2);
        }
        C.due("9: refusals change nothing", x.about(128, 1), 1);
        C.due("9: of a syllable", x.rank(44032, 9), 0);
        for (int i = 2; i < 100; i++) {
            C.due("9: rank " + i, x.rank(1000 + i, i % 2), 0);
        }
        C.due("9: 100 others have one", x.rank(3000, 5), -4);
        C.due("9: 100 others have one, rank 0", x.rank(3000, 0), -4);
        C.due("9: -2 before -4", x.rank(3000, 255), -2);
        C.due("9: 99 others have one", x.rank(1099, 7), 1);
        C.due("9: one told as 0", x.rank(1002, 8), 0);
        C.due("9: about", x.about(1099, 1), 7);
        C.due("9: about", x.about(3000, 1), 0);
    }

    private static void range() {
        WideNames x = new WideNames();
        C.due("10: marks", x.range(0, 768, 879, 1), 1);
        C.due("10: no mark", x.range(0, 800, 800, 0), 1);
        C.due("10: about 767", x.about(767, 2), 0);
        C.due("10: about 768", x.about(768, 2), 1);
        C.due("10: about 800", x.about(800, 2), 0);
        C.due("10: about 879", x.about(879, 2), 1);
        C.due("10: about 880", x.about(880, 2), 0);
        C.due("10: of other kinds none is told", x.about(768, 3) + x.about(768, 4), 0);
        C.due("10: directions", x.range(1, 0, TOP, 10), 1);
        C.due("10: about 5, direction", x.about('5', 3), 10);
        C.due("10: L again", x.range(1, '5', '5', 0), 1);
        C.due("10: about 5, direction", x.about('5', 3), 0);
        C.due("10: joinings", x.range(2, 55296, 57344, 4), 1);
        C.due("10: about 57344, joining", x.about(57344, 4), 4);
        int[][] wrong = {{-1, 0, 1, 0}, {3, 0, 1, 0}, {0, 0, 1, 2}, {0, 0, 1, -1}, {1, 0, 1, 11}, {1, 0, 1, -1},
            {2, 0, 1, 5}, {2, 0, 1, -1}, {1, 2, 1, 0}, {1, -1, 1, 0}, {1, 0, TOP + 1, 0},
            {1, TOP + 1, TOP + 1, 0}, {Integer.MIN_VALUE, 0, 1, -1}, {Integer.MAX_VALUE, 0, 1, 0}};
        for (int[] w : wrong) {
            C.due("10: range(" + w[0] + ", " + w[1] + ", " + w[2] + ", " + w[3] + ")",
                    x.range(w[0], w[1], w[2], w[3]), -2);
        }
        for (int i = 6; i <= 200; i++) {
            C.due("10: range " + i, x.range(i % 3, 2000, 2000, 1), 1);
        }
        C.due("10: 200 were told", x.range(0, 3000, 3000, 1), -4);
        C.due("10: 200 were told", x.range(1, 3000, 3000, 1), -4);
        C.due("10: -2 before -4", x.range(1, 3001, 3000, 1), -2);
        C.due("10: as it was", x.about(3000, 2), 0);
        C.due("6: status has room of its own", x.status(1, 2, 1), 1);
    }

    private static void about() {
        WideNames x = new WideNames();
        for (int what = -1; what <= 5; what++) {
            C.due("11: about(-1, " + what + ")", x.about(-1, what), -1);
            C.due("11: about(55296, " + what + ")", x.about(55296, what), -1);
            C.due("11: about(57343, " + what + ")", x.about(57343, what), -1);
            C.due("11: about(above all, " + what + ")", x.about(TOP + 1, what), -1);
        }
        for (int what : new int[] {-1, 5, Integer.MAX_VALUE, Integer.MIN_VALUE}) {
            C.due("11: about(a, " + what + ")", x.about('a', what), -2);
        }
        x.status(200, 200, 1);
        x.rank(200, 17);
        x.range(0, 200, 200, 1);
        x.range(1, 200, 200, 7);
        x.range(2, 200, 200, 3);
        int[] want = {1, 17, 1, 7, 3};
        for (int what = 0; what < 5; what++) {
            C.due("11: about(200, " + what + ")", x.about(200, what), want[what]);
            C.due("11: about(201, " + what + ")", x.about(201, what), 0);
        }
    }
}
