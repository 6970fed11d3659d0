/** Promises 12 to 14: form, inForm, alike. */
public final class FormsTest {
    private static final Checks C = new Checks();

    public static void main(String[] args) {
        apart();
        apartOrder();
        apartRoom();
        syllables();
        together();
        blocked();
        oneFormRoom();
        inForm();
        alike();
        alikeRefusals();
        C.end();
    }

    /** 768 and 769 of rank 230, 803 of rank 220, 2381 of rank 9, and some parts. */
    private static WideNames told() {
        WideNames x = new WideNames();
        x.rank(768, 230);
        x.rank(769, 230);
        x.rank(803, 220);
        x.rank(2381, 9);
        x.parts(7000, 97, 768, false);
        x.parts(7001, 97, 803, false);
        x.parts(7002, 7001, 768, false);
        x.parts(7003, 7000, 0, false);
        x.parts(7004, 98, 768, true);
        return x;
    }

    private static int[] formOf(WideNames x, int kind, int... points) {
        Checks.row(x, points);
        int answer = x.form(kind);
        int[] row = Checks.row(x);
        C.due("12: how many points", answer, row.length);
        return row;
    }

    private static void apart() {
        WideNames x = told();
        C.due("12: apart, nothing", formOf(x, 0));
        C.due("12: apart, two", formOf(x, 0, 7000), 97, 768);
        C.due("12: apart, parts of parts", formOf(x, 0, 7002), 97, 803, 768);
        C.due("12: apart, one of one", formOf(x, 0, 7003), 97, 768);
        C.due("12: apart, EXCLUDED", formOf(x, 0, 7004), 98, 768);
        C.due("12: apart, others stay", formOf(x, 0, 65, 7005, 1114111), 65, 7005, 1114111);
        x.parts(128, 127, 126, false);
        C.due("12: apart, the least of points that have parts", formOf(x, 0, 128, 127), 127, 126, 127);
        formOf(x, 0, 65, 7005, 1114111);
        C.due("12: no such kind", x.form(2), -2);
        C.due("12: no such kind", x.form(-1), -2);
        C.due("12: the row as it was", Checks.row(x), 65, 7005, 1114111);
    }

    private static void apartOrder() {
        WideNames x = told();
        C.due("12: ranks", formOf(x, 0, 97, 768, 803), 97, 803, 768);
        C.due("12: the same ranks stay", formOf(x, 0, 97, 769, 768), 97, 769, 768);
        C.due("12: all over", formOf(x, 0, 768, 769, 803, 2381), 2381, 803, 768, 769);
        C.due("12: not over a beginner", formOf(x, 0, 768, 97, 2381, 98), 768, 97, 2381, 98);
        C.due("12: behind what comes apart", formOf(x, 0, 7000, 803, 2381), 97, 2381, 803, 768);
        x.rank(7000, 5);
        C.due("12: the rank of what is gone does not count", formOf(x, 0, 768, 7000), 768, 97, 768);
        x.rank(769, 0);
        C.due("12: a rank told as 0 again", formOf(x, 0, 768, 769, 803), 768, 769, 803);
        x.rank(803, 254);
        C.due("12: a rank told again", formOf(x, 0, 803, 768, 2381), 2381, 768, 803);
    }

    private static void apartRoom() {
        WideNames x = told();
        int[] fits = Checks.join(Checks.many(149, 7000), new int[] {97, 98});
        C.due("12: apart into 300", formOf(x, 0, fits).length, 300);
        Checks.row(x, Checks.join(Checks.many(149, 7000), new int[] {97, 98, 99}));
        C.due("12: apart into 301", x.form(0), -4);
        C.due("12: the row as it was", x.point(150), 98);
        WideNames doubling = new WideNames();
        doubling.parts(1000, 97, 98, false);
        for (int i = 1; i < 100; i++) {
            doubling.parts(1000 + i, 999 + i, 999 + i, false);
        }
        C.due("12: doubled a hundred times", Checks.row(doubling, 1099).form(0), -4);
        C.due("12: doubled eight times", formOf(doubling, 0, 1007).length, 256);
        WideNames chain = new WideNames();
        chain.parts(1000, 97, 98, false);
        for (int i = 1; i < 100; i++) {
            chain.parts(1000 + i, 999 + i, 99, false);
        }
        C.due("12: a chain of a hundred", formOf(chain, 0, 1099), Checks.join(new int[] {97, 98}, Checks.many(99, 99)));
        C.due("12: and together again", formOf(chain, 1, 1099), 1099);
        WideNames behind = new WideNames();
        behind.parts(1000, 97, 98, false);
        for (int i = 1; i < 100; i++) {
            behind.parts(1000 + i, 99, 999 + i, false);
        }
        C.due("12: a chain of seconds", formOf(behind, 0, 1099), Checks.join(Checks.many(99, 99), new int[] {97, 98}));
    }

    private static void syllables() {
        WideNames x = new WideNames();
        C.due("12: the first syllable", formOf(x, 0, 44032), 4352, 4449);
        C.due("12: one with a third part", formOf(x, 0, 44033), 4352, 4449, 4520);
        C.due("12: the last syllable", formOf(x, 0, 55203), 4370, 4469, 4546);
        C.due("12: 54616", formOf(x, 0, 54616), 4370, 4449);
        C.due("12: what is about them", formOf(x, 0, 44031, 55204), 44031, 55204);
        C.due("12: two together", formOf(x, 1, 4352, 4449), 44032);
        C.due("12: three together", formOf(x, 1, 4370, 4469, 4546), 55203);
        C.due("12: a syllable and a tail", formOf(x, 1, 44032, 4520), 44033);
        C.due("12: a syllable with a tail, and a tail", formOf(x, 1, 44033, 4520), 44033, 4520);
        C.due("12: 4519 is no tail", formOf(x, 1, 4352, 4449, 4519), 44032, 4519);
        C.due("12: 4547 is no tail", formOf(x, 1, 4352, 4449, 4547), 44032, 4547);
        C.due("12: 4371 is no lead", formOf(x, 1, 4371, 4449), 4371, 4449);
        C.due("12: 4351 is no lead", formOf(x, 1, 4351, 4449), 4351, 4449);
        C.due("12: 4448 is no vowel", formOf(x, 1, 4352, 4448), 4352, 4448);
        C.due("12: 4470 is no vowel", formOf(x, 1, 4352, 4470), 4352, 4470);
        C.due("12: a lead and a tail", formOf(x, 1, 4352, 4520), 4352, 4520);
        x.rank(4449, 3);
        x.rank(44032, 7);
        C.due("12: a vowel that has a rank", formOf(x, 1, 4352, 4449, 4520), 44033);
        x.rank(4352, 3);
        C.due("12: a lead that is no beginner", formOf(x, 1, 4352, 4449), 4352, 4449);
        for (int s = 44032; s <= 55203; s++) {
            WideNames y = new WideNames();
            y.add(s);
            if (y.form(0) != (s % 28 == 44032 % 28 ? 2 : 3) || y.form(1) != 1 || y.point(0) != s) {
                C.due("12: syllable " + s + " apart and together", y.point(0), s);
            }
        }
    }

    private static void together() {
        WideNames x = told();
        C.due("12: one form of nothing", formOf(x, 1));
        C.due("12: together", formOf(x, 1, 97, 768), 7000);
        C.due("12: together again", formOf(x, 1, 97, 768, 803), 7002);
        C.due("12: over what is apart", formOf(x, 1, 7000, 803), 7002);
        C.due("12: of one alone", formOf(x, 1, 7003), 7000);
        C.due("12: EXCLUDED", formOf(x, 1, 7004), 98, 768);
        C.due("12: only with a beginner", formOf(x, 1, 768, 97), 768, 97);
        C.due("12: none before", formOf(x, 1, 768, 769), 768, 769);
        WideNames y = new WideNames();
        y.parts(300, 97, 98, false);
        y.parts(301, 300, 99, false);
        y.parts(302, 99, 97, false);
        C.due("12: beginners come together", formOf(y, 1, 97, 98, 99, 97, 98), 301, 300);
        C.due("12: the last beginner", formOf(y, 1, 97, 98, 98, 99), 300, 98, 99);
        C.due("12: from the left", formOf(y, 1, 99, 97, 98), 302, 98);
        y.rank(300, 5);
        C.due("12: what came together has a rank", formOf(y, 1, 97, 98, 99), 301);
        y.rank(400, 5);
        y.rank(401, 6);
        y.parts(500, 400, 97, false);
        C.due("12: a first that is no beginner", formOf(y, 1, 400, 97), 400, 97);
    }

    private static void blocked() {
        WideNames x = new WideNames();
        x.rank(400, 10);
        x.rank(401, 10);
        x.rank(402, 20);
        x.rank(403, 30);
        x.parts(500, 97, 401, false);
        x.parts(501, 97, 403, false);
        x.parts(502, 97, 98, false);
        x.parts(503, 501, 402, false);
        C.due("12: one of the same rank between", formOf(x, 1, 97, 400, 401), 97, 400, 401);
        C.due("12: the same rank, in front", formOf(x, 1, 97, 401, 400), 500, 400);
        C.due("12: one of a lesser rank between", formOf(x, 1, 97, 400, 403), 501, 400);
        C.due("12: two of lesser ranks between", formOf(x, 1, 97, 402, 403, 400), 501, 400, 402);
        C.due("12: a beginner behind a rank", formOf(x, 1, 97, 400, 98), 97, 400, 98);
        C.due("12: a beginner right behind", formOf(x, 1, 97, 98, 400), 502, 400);
        C.due("12: what is gone does not stand between", formOf(x, 1, 97, 401, 401), 500, 401);
        x.parts(504, 500, 98, false);
        C.due("12: a beginner behind what is gone", formOf(x, 1, 97, 401, 98), 504);
        x.parts(505, 500, 403, false);
        C.due("12: over one that stays", formOf(x, 1, 97, 401, 402, 403), 505, 402);
        x.parts(506, 500, 401, false);
        C.due("12: the same twice", formOf(x, 1, 97, 401, 401), 506);
    }

    private static void oneFormRoom() {
        WideNames x = told();
        Checks.row(x, Checks.many(150, 7000));
        C.due("12: one form of 300 apart", x.form(1), 150);
        C.due("12: stays", x.point(149), 7000);
        Checks.row(x, Checks.many(151, 7000));
        C.due("12: one form of 302 apart", x.form(1), -4);
        C.due("12: 302 apart", x.form(0), -4);
        C.due("12: the row as it was", x.point(150), 7000);
        C.due("13: 0 if APART is too long", x.inForm(), 0);
        Checks.row(x, Checks.many(101, 44033));
        C.due("12: 101 syllables", x.form(0), -4);
        Checks.row(x, Checks.many(100, 44033));
        C.due("12: 100 syllables", x.form(0), 300);
        C.due("12: and back", x.form(1), 100);
    }

    private static void inForm() {
        WideNames x = told();
        int[][] in = {{}, {97}, {7000}, {7002}, {97, 769}, {768}, {98, 768}, {44033}, {7000, 768}};
        int[][] notIn = {{97, 768}, {7000, 803}, {7003}, {7004}, {768, 803}, {4352, 4449}, {44032, 4520}};
        for (int[] row : in) {
            C.due("13: in form", Checks.row(x, row).inForm(), 1);
            C.due("13: the row as it was", Checks.row(x), row);
        }
        for (int[] row : notIn) {
            C.due("13: not in form", Checks.row(x, row).inForm(), 0);
            C.due("13: the row as it was", Checks.row(x), row);
        }
    }

    private static void alike() {
        WideNames x = told();
        Checks.text(x, new String(Character.toChars(7002)) + "b");
        C.due("14: alike, apart", Checks.row(x, 97, 768, 803, 98).alike(), 1);
        C.due("14: alike, partly", Checks.row(x, 7000, 803, 98).alike(), 1);
        C.due("14: alike, the same", Checks.row(x, 7002, 98).alike(), 1);
        C.due("14: shorter", Checks.row(x, 7002).alike(), 0);
        C.due("14: longer", Checks.row(x, 7002, 98, 99).alike(), 0);
        C.due("14: another", Checks.row(x, 7001, 98).alike(), 0);
        C.due("14: the row as it was", Checks.row(x), 7001, 98);
        C.due("14: THE TEXT as it was", x.read(), 2);
        Checks.row(x, 7004);
        Checks.text(x, "b\u0300");
        C.due("14: EXCLUDED ones too", x.alike(), 1);
    }

    private static void alikeRefusals() {
        WideNames x = told();
        Checks.row(x, 97);
        Checks.text(x, 'a', 195);
        C.due("14: a fault of THE TEXT", x.alike(), -12);
        Checks.text(x, Checks.many(301, 'a'));
        C.due("14: 301 points", x.alike(), -4);
        Checks.text(x, Checks.join(Checks.many(300, 'a'), new int[] {255}));
        C.due("14: a fault instead of the 301st", x.alike(), -310);
        C.due("14: the row as it was", Checks.row(x), 97);
        Checks.row(x, Checks.many(151, 7000));
        Checks.text(x, "a");
        C.due("14: the row too long, apart", x.alike(), -4);
        Checks.text(x, 255);
        C.due("14: a fault of THE TEXT is told first", x.alike(), -10);
        Checks.row(x, 97);
        Checks.text(x, new String(Character.toChars(44033)).repeat(101));
        C.due("14: THE TEXT too long, apart", x.alike(), -4);
        Checks.text(x, new String(Character.toChars(44033)).repeat(100));
        C.due("14: THE TEXT of 300, apart", x.alike(), 0);
        Checks.row(x, Checks.many(100, 44033));
        C.due("14: both of 300, apart", x.alike(), 1);
    }
}
