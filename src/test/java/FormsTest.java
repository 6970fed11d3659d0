/** Promises 12 to 14: form, inForm, alike. */
public final class FormsTest {
    private static final Checks C = new Checks();
    private static final Told NEW = new Told();
    private static final int APART = 0;
    private static final int ONE_FORM = 1;

    public static void main(String[] args) {
        formOfSuchKinds();
        formOfNothing();
        apartByPartsOfParts();
        apartByAHundred();
        apartByRanks();
        apartByRanksFarAway();
        apartHas300();
        syllablesApart();
        syllablesTogether();
        syllablesWithRanks();
        allSyllables();
        togetherOfTwo();
        togetherWithTheLastBeginner();
        togetherUnlessOneStandsBetween();
        togetherOverLesserRanks();
        whatCameTogetherIsABeginner();
        whatIsGoneDoesNotStandBetween();
        oneFormHas300();
        inForm();
        inFormOfTooLong();
        alike();
        alikeOfAFault();
        alikeOfTooLong();
        C.end();
    }

    /** 768 and 769 of rank 230, 803 of rank 220, 2381 of rank 9, and some parts. */
    private static Told told() {
        return NEW.copy().rank(768, 230).rank(769, 230).rank(803, 220).rank(2381, 9)
                .parts(1000, 97, 768, false)
                .parts(1001, 97, 803, false)
                .parts(1002, 1001, 768, false)
                .parts(1003, 1000, 0, false)
                .parts(1004, 98, 768, true);
    }

    private static int[] row(int... points) {
        return points;
    }

    private static void dueForm(Told told, int kind, int[] from, int... want) {
        C.dueRow("12: form(" + kind + ") of " + java.util.Arrays.toString(from), told.copy().row(from),
                x -> x.form(kind), want);
    }

    private static void dueSame(Told told, int kind, int... from) {
        dueForm(told, kind, from, from);
    }

    // 12: "The row at hand comes APART (kind 0), or is its ONE FORM (1): how many points. -2 no such kind, -4 it would
    // have more than 300 (APART, too, on the way)."

    private static void formOfSuchKinds() {
        Told composed = told().row(1000, 803);
        C.dueRow("12: kind 0", composed, x -> x.form(0), 97, 803, 768);
        C.dueRow("12: kind 1", composed, x -> x.form(1), 1002);
        for (int kind : row(Integer.MIN_VALUE, -1, 2, 3, Integer.MAX_VALUE)) {
            C.refused("12: kind " + kind, composed, x -> x.form(kind), -2, 1000, 803);
            C.refused("12: kind " + kind + " of nothing", told(), x -> x.form(kind), -2);
        }
        Told tooLong = doubled().row(1008);
        C.refused("12: -2 before -4", tooLong, x -> x.form(2), -2);
        C.refused("12: -2 before -4", tooLong, x -> x.form(-1), -2);
        Names x = told().text("ab").row(1000).fresh();
        x.form(0);
        C.due("12: THE TEXT is as it was", x.read(), 2);
    }

    private static void formOfNothing() {
        dueSame(told(), APART);
        dueSame(told(), ONE_FORM);
        for (int p : Checks.LAST_POINTS) {
            dueSame(told(), APART, p);
            dueSame(told(), ONE_FORM, p);
        }
        dueSame(told(), APART, 768);
        dueSame(told(), ONE_FORM, 768);
    }

    // "APART is a row when each point is replaced by its parts, these by theirs, and so on"

    private static void apartByPartsOfParts() {
        dueForm(told(), APART, row(1000), 97, 768);
        dueForm(told(), APART, row(1002), 97, 803, 768);
        dueForm(told(), APART, row(1003), 97, 768);
        dueForm(told(), APART, row(1004), 98, 768);
        dueForm(told(), APART, row(65, 1000, 1005, 1000), 65, 97, 768, 1005, 97, 768);
        dueSame(told(), APART, 999, 1005, Checks.TOP);
        dueForm(NEW.copy().parts(128, 127, 126, false), APART, row(128, 127), 127, 126, 127);
        dueForm(NEW.copy().parts(Checks.TOP, 1, 0, false), APART, row(Checks.TOP), 1);
        // What the parts come apart into may be told later.
        dueForm(NEW.copy().parts(300, 200, 201, false).parts(201, 98, 99, false).parts(200, 97, 0, true), APART,
                row(300), 97, 98, 99);
    }

    /** 1000 comes apart into 2, 1001 into 4, 1007 into 256, 1008 into 512, and so on. */
    private static Told doubled() {
        Told told = NEW.copy().parts(1000, 97, 98, false);
        for (int i = 1; i < 100; i++) {
            told.parts(1000 + i, 999 + i, 999 + i, false);
        }
        return told;
    }

    private static void apartByAHundred() {
        Told first = NEW.copy().parts(1000, 97, 98, false);
        Told second = NEW.copy().parts(1000, 97, 98, false);
        Told alone = NEW.copy().parts(1000, 97, 0, false);
        for (int i = 1; i < 100; i++) {
            first.parts(1000 + i, 999 + i, 99, false);
            second.parts(1000 + i, 99, 999 + i, false);
            alone.parts(1000 + i, 999 + i, 0, false);
        }
        dueForm(first, APART, row(1099), Checks.join(row(97, 98), Checks.many(99, 99)));
        dueForm(first, ONE_FORM, row(1099), 1099);
        dueForm(first, ONE_FORM, row(1098, 99), 1099);
        dueForm(second, APART, row(1099), Checks.join(Checks.many(99, 99), row(97, 98)));
        dueForm(second, ONE_FORM, row(1099), Checks.join(Checks.many(99, 99), row(1000)));
        dueForm(alone, APART, row(1099, 1098), 97, 97);
        dueForm(doubled(), APART, row(1002), 97, 98, 97, 98, 97, 98, 97, 98);
    }

    // "and then, again and again, of two neighbours, the later one's RANK being above 0 and less than the earlier
    // one's, both change places, till there are none"

    private static void apartByRanks() {
        Told t = NEW.copy().rank(301, 1).rank(302, 2).rank(312, 2).rank(353, 253).rank(354, 254).rank(300, 0);
        dueSame(t, APART, 301, 302);
        dueForm(t, APART, row(302, 301), 301, 302);
        dueSame(t, APART, 302, 312);
        dueSame(t, APART, 312, 302);
        dueSame(t, APART, 353, 354);
        dueForm(t, APART, row(354, 353), 353, 354);
        dueSame(t, APART, 301, 300);
        dueSame(t, APART, 300, 301);
        dueSame(t, APART, 354, 97, 301);
        dueSame(t, APART, 302, 300, 301);
        dueForm(t, APART, row(354, 302, 312, 353, 301), 301, 302, 312, 353, 354);
        dueForm(t, APART, row(302, 301, 97, 312, 301), 301, 302, 97, 301, 312);
        dueForm(told(), APART, row(97, 769, 768, 803), 97, 803, 769, 768);
        dueForm(told(), APART, row(1000, 803, 2381), 97, 2381, 803, 768);
        dueSame(told().rank(769, 0), APART, 768, 769, 803);
        dueForm(told().rank(803, 254), APART, row(803, 768), 768, 803);
        // The rank of what has come apart does not count.
        dueForm(told().rank(1000, 5), APART, row(768, 1000), 768, 97, 768);
    }

    private static void apartByRanksFarAway() {
        Told t = NEW.copy().rank(301, 1).rank(302, 2);
        Names x = t.copy().row(Checks.join(Checks.many(299, 302), row(301))).fresh();
        C.due("12: 299 places to the left", x.form(APART), 300);
        C.due("12: it is the first", x.point(0), 301);
        C.due("12: the others behind it", x.point(1), 302);
        C.due("12: the others behind it", x.point(299), 302);
        x = t.copy().row(Checks.join(row('a'), Checks.many(298, 302), row(301))).fresh();
        C.due("12: 298 places to the left", x.form(ONE_FORM), 300);
        C.due("12: not over a beginner", x.point(0), 'a');
        C.due("12: it is behind that", x.point(1), 301);
        C.due("12: the others behind it", x.point(299), 302);
    }

    private static void apartHas300() {
        Told fits = doubled().row(1007, 1004, 1002, 1001);
        Names x = fits.fresh();
        C.due("12: apart into 300", x.form(APART), 300);
        C.due("12: the first", x.point(0), 97);
        C.due("12: the last", x.point(299), 98);
        C.due("12: none behind it", x.point(300), -1);
        C.due("12: apart into 299", doubled().row(1007, 1004, 1002, 1000, 97), n -> n.form(APART), 299);
        int[][] tooLong = {{1007, 1004, 1002, 1001, 97}, {97, 1007, 1004, 1002, 1001}, {1007, 1004, 1002, 1001, 1000},
            {1008}, {1099}, {1007, 1007}, {1099, 1099}};
        for (int[] row : tooLong) {
            C.refused("12: apart into more", doubled().row(row), n -> n.form(APART), -4, 1002);
            C.refused("12: one form, more on the way", doubled().row(row), n -> n.form(ONE_FORM), -4, 1002);
        }
        Told full = NEW.copy().parts(1000, 97, 98, false).parts(1001, 97, 0, false);
        String all = "a".repeat(298);
        C.due("12: 299, one of two", read(full, all + Checks.of(1000)), n -> n.form(APART), 300);
        C.due("12: 300, one of one", read(full, all + "a" + Checks.of(1001)), n -> n.form(APART), 300);
        C.refused("12: 300, the last of two", read(full, all + "a" + Checks.of(1000)), n -> n.form(APART), -4);
        C.refused("12: 300, the first of two", read(full, Checks.of(1000) + "a" + all), n -> n.form(APART), -4);
        Told syllables = NEW.copy().row(Checks.many(100, 44033));
        C.due("12: 100 syllables of three", syllables, n -> n.form(APART), 300);
        C.refused("12: and a point", NEW.copy().row(Checks.join(Checks.many(100, 44033), row(97))),
                n -> n.form(APART), -4);
        C.refused("12: 99 of three, two of two", NEW.copy().row(Checks.join(Checks.many(99, 44033), row(44032, 44032))),
                n -> n.form(APART), -4);
    }

    private static Told read(Told told, String s) {
        return told.copy().text(s).then(Names::read);
    }

    // "SYLLABLES are 44032 .. 55203: s = point - 44032 comes apart into 4352 + s / 588 and 4449 + s % 588 / 28, and, if
    // s % 28 is not 0, 4519 + s % 28 besides (these three, in this order)."

    private static void syllablesApart() {
        dueSame(NEW, APART, 44031);
        dueForm(NEW, APART, row(44032), 4352, 4449);
        dueForm(NEW, APART, row(44033), 4352, 4449, 4520);
        dueForm(NEW, APART, row(44059), 4352, 4449, 4546);
        dueForm(NEW, APART, row(44060), 4352, 4450);
        dueForm(NEW, APART, row(44061), 4352, 4450, 4520);
        dueForm(NEW, APART, row(44619), 4352, 4469, 4546);
        dueForm(NEW, APART, row(44620), 4353, 4449);
        dueForm(NEW, APART, row(54615), 4369, 4469, 4546);
        dueForm(NEW, APART, row(54616), 4370, 4449);
        dueForm(NEW, APART, row(55176), 4370, 4469);
        dueForm(NEW, APART, row(55203), 4370, 4469, 4546);
        dueSame(NEW, APART, 55204);
    }

    // "4352 .. 4370 and 4449 .. 4469 behind it come together into that syllable; a syllable with s % 28 = 0 and 4520 ..
    // 4546 behind it into that."

    private static void syllablesTogether() {
        dueForm(NEW, ONE_FORM, row(4352, 4449), 44032);
        dueForm(NEW, ONE_FORM, row(4352, 4469), 44592);
        dueForm(NEW, ONE_FORM, row(4370, 4449), 54616);
        dueForm(NEW, ONE_FORM, row(4370, 4469), 55176);
        dueSame(NEW, ONE_FORM, 4351, 4449);
        dueSame(NEW, ONE_FORM, 4371, 4449);
        dueSame(NEW, ONE_FORM, 4352, 4448);
        dueSame(NEW, ONE_FORM, 4352, 4470);
        dueSame(NEW, ONE_FORM, 4449, 4352);
        dueForm(NEW, ONE_FORM, row(4352, 4352, 4449, 4449), 4352, 44032, 4449);
        dueForm(NEW, ONE_FORM, row(4352, 4449, 4520), 44033);
        dueForm(NEW, ONE_FORM, row(4370, 4469, 4546), 55203);
        dueForm(NEW, ONE_FORM, row(44032, 4520), 44033);
        dueForm(NEW, ONE_FORM, row(44032, 4546), 44059);
        dueForm(NEW, ONE_FORM, row(55176, 4546), 55203);
        dueSame(NEW, ONE_FORM, 44032, 4519);
        dueSame(NEW, ONE_FORM, 44032, 4547);
        dueSame(NEW, ONE_FORM, 44033, 4520);
        dueSame(NEW, ONE_FORM, 44059, 4520);
        dueForm(NEW, ONE_FORM, row(44060, 4520), 44061);
        dueSame(NEW, ONE_FORM, 4352, 4520);
        dueSame(NEW, ONE_FORM, 4352, 97, 4449);
        dueForm(NEW, ONE_FORM, row(4352, 4449, 4520, 4520), 44033, 4520);
        dueForm(NEW, ONE_FORM, row(4352, 4449, 97, 4520), 44032, 97, 4520);
    }

    private static void syllablesWithRanks() {
        dueForm(NEW.copy().rank(4449, 3).rank(44032, 7), ONE_FORM, row(4352, 4449, 4520), 44033);
        dueSame(NEW.copy().rank(4352, 3), ONE_FORM, 4352, 4449);
        // The order by ranks is that of the parts of a syllable, too.
        Told t = NEW.copy().rank(4449, 5).rank(4520, 3);
        dueForm(t, APART, row(44033), 4352, 4520, 4449);
        dueForm(t, ONE_FORM, row(44033), 44032, 4520);
        dueForm(NEW.copy().rank(768, 230), ONE_FORM, row(4352, 768, 4449), 4352, 768, 4449);
    }

    private static void allSyllables() {
        int wrong = 0;
        for (int s = 44032; s <= 55203; s++) {
            Names x = NEW.fresh();
            x.add(s);
            int want = (s - 44032) % 28 == 0 ? 2 : 3;
            wrong += x.inForm() == 1 && x.form(0) == want && x.form(1) == 1 && x.point(0) == s ? 0 : 1;
        }
        C.due("12: syllables that do not come apart and together again", wrong, 0);
    }

    // "TOGETHER: of two that it comes apart into, unless it is told to be EXCLUDED; two points are those of one such
    // point alone."

    private static void togetherOfTwo() {
        dueForm(told(), ONE_FORM, row(97, 768), 1000);
        dueForm(told(), ONE_FORM, row(97, 768, 803), 1002);
        dueForm(told(), ONE_FORM, row(1000, 803), 1002);
        dueForm(told(), ONE_FORM, row(1003), 1000);
        dueForm(told(), ONE_FORM, row(1004), 98, 768);
        dueSame(told(), ONE_FORM, 98, 768);
        dueSame(told(), ONE_FORM, 97, 769);
        dueSame(told(), ONE_FORM, 97);
        dueSame(told(), ONE_FORM, 97, 0);
        Told excluded = NEW.copy().parts(300, 97, 98, true).parts(301, 97, 98, false).parts(302, 97, 98, true);
        dueForm(excluded, ONE_FORM, row(300, 301, 302), 301, 301, 301);
        Told alone = NEW.copy().parts(300, 97, 0, false).parts(301, 300, 98, false);
        dueForm(alone, ONE_FORM, row(301), 97, 98);
        dueForm(NEW.copy().parts(128, 127, 127, false), ONE_FORM, row(127, 127, 127), 128, 127);
        dueForm(NEW.copy().parts(Checks.TOP, Checks.TOP - 1, 1, false), ONE_FORM, row(Checks.TOP - 1, 1), Checks.TOP);
    }

    // "ONE FORM (NFC) of a row: APART; then from the left on each point but the first is looked at with the last
    // BEGINNER before it (if there is one)"

    private static void togetherWithTheLastBeginner() {
        Told t = NEW.copy().parts(300, 97, 98, false).parts(301, 300, 99, false).parts(302, 99, 97, false)
                .rank(400, 5).rank(401, 6).parts(500, 400, 97, false).parts(501, 400, 401, false)
                .parts(502, 98, 401, false).parts(503, 97, 401, false);
        dueForm(t, ONE_FORM, row(97, 98, 99, 97, 98), 301, 300);
        dueForm(t, ONE_FORM, row(97, 98, 98, 99), 300, 98, 99);
        dueForm(t, ONE_FORM, row(99, 97, 98), 302, 98);
        dueSame(t, ONE_FORM, 400, 97);
        dueSame(t, ONE_FORM, 400, 401);
        dueForm(t, ONE_FORM, row(401, 400), 400, 401);
        dueForm(t, ONE_FORM, row(400, 97, 98), 400, 300);
        dueForm(t, ONE_FORM, row(97, 99, 98, 401), 97, 99, 502);
        dueForm(t, ONE_FORM, row(97, 401, 97, 401), 503, 503);
    }

    // "if none stands between them, or the one right before has a RANK that is above 0 and less than its own, and both
    // come TOGETHER, the BEGINNER is that, and the point is gone"

    private static Told between() {
        return NEW.copy().rank(400, 10).rank(401, 10).rank(402, 20).rank(403, 30).rank(411, 11).rank(409, 9)
                .rank(301, 1).rank(302, 2)
                .parts(500, 97, 401, false).parts(501, 97, 403, false).parts(502, 97, 98, false)
                .parts(503, 501, 402, false).parts(511, 97, 411, false).parts(512, 97, 302, false);
    }

    private static void togetherUnlessOneStandsBetween() {
        Told t = between();
        dueForm(t, ONE_FORM, row(97, 401), 500);
        dueForm(t, ONE_FORM, row(97, 98), 502);
        dueSame(t, ONE_FORM, 97, 400, 401);
        dueForm(t, ONE_FORM, row(97, 401, 400), 500, 400);
        dueForm(t, ONE_FORM, row(97, 402, 401), 500, 402);
        dueSame(t, ONE_FORM, 97, 400, 98);
        dueSame(t, ONE_FORM, 97, 301, 98);
        dueForm(t, ONE_FORM, row(97, 98, 400), 502, 400);
        dueSame(t, ONE_FORM, 97, 99, 401);
        dueSame(t, ONE_FORM, 97, 99, 98);
    }

    private static void togetherOverLesserRanks() {
        Told t = between();
        dueForm(t, ONE_FORM, row(97, 400, 411), 511, 400);
        dueForm(t, ONE_FORM, row(97, 409, 401), 500, 409);
        dueForm(t, ONE_FORM, row(97, 301, 302), 512, 301);
        dueForm(t, ONE_FORM, row(97, 400, 403), 501, 400);
        dueForm(t, ONE_FORM, row(97, 400, 402, 403), 501, 400, 402);
        dueForm(t, ONE_FORM, row(97, 409, 400, 401), 97, 409, 400, 401);
        dueForm(t, ONE_FORM, row(97, 402, 403, 400), 501, 400, 402);
    }

    // "(What came TOGETHER counts as a BEGINNER, whatever its RANK. What is gone does not stand between.)"

    private static void whatCameTogetherIsABeginner() {
        Told t = NEW.copy().parts(300, 97, 98, false).parts(301, 300, 99, false).parts(603, 300, 400, false)
                .parts(604, 300, 402, false).rank(400, 3).rank(401, 3).rank(402, 4).rank(301, 254);
        for (int rank : row(0, 2, 3, 4, 5)) {
            Told ranked = t.copy().rank(300, rank);
            dueForm(ranked, ONE_FORM, row(97, 98), 300);
            dueForm(ranked, ONE_FORM, row(97, 98, 99), 301);
            dueForm(ranked, ONE_FORM, row(97, 98, 400), 603);
            dueForm(ranked, ONE_FORM, row(97, 98, 401, 402), 604, 401);
            dueSame(ranked, ONE_FORM, 300, 401, 400);
        }
    }

    private static void whatIsGoneDoesNotStandBetween() {
        Told t = between().parts(504, 500, 98, false).parts(505, 500, 403, false).parts(506, 500, 411, false);
        dueForm(t, ONE_FORM, row(97, 401, 401), 500, 401);
        dueForm(t, ONE_FORM, row(97, 401, 98), 504);
        dueForm(t, ONE_FORM, row(97, 401, 411), 506);
        dueForm(t, ONE_FORM, row(97, 401, 402, 403), 505, 402);
        dueForm(t.copy().parts(507, 500, 401, false), ONE_FORM, row(97, 401, 401), 507);
        dueForm(t.copy().parts(507, 500, 400, false), ONE_FORM, row(97, 401, 400, 401), 507, 401);
        // 411 stays, 412 goes: behind that the one right before is 411 again.
        Told two = NEW.copy().rank(411, 11).rank(412, 12).rank(422, 12).parts(500, 97, 412, false)
                .parts(501, 500, 422, false);
        dueForm(two, ONE_FORM, row(97, 411, 412, 422), 501, 411);
    }

    private static void oneFormHas300() {
        Told t = NEW.copy().parts(1000, 97, 98, false);
        int[] half = Checks.many(150, 1000);
        C.dueRow("12: 300 apart", read(t, Checks.of(half)), n -> n.form(ONE_FORM), half);
        C.refused("12: 301 apart", read(t, Checks.of(half) + "a"), n -> n.form(ONE_FORM), -4, 1000);
        C.refused("12: 302 apart", read(t, Checks.of(half) + Checks.of(1000)), n -> n.form(ONE_FORM), -4, 1000);
        C.dueRow("12: 300 that stay", NEW.copy().rowOf(300, 'a'), n -> n.form(ONE_FORM), Checks.many(300, 'a'));
        C.dueRow("12: 300 to 150", read(t, "ab".repeat(150)), n -> n.form(ONE_FORM), half);
    }

    // 13: "Whether the row at hand is IN FORM: 1, 0; 0 also if its APART is too long."

    private static void inForm() {
        Told t = told().text("ab");
        int[][] in = {{}, {97}, {1000}, {1002}, {97, 769}, {768}, {768, 769}, {98, 768}, {44033}, {1000, 768}, {97, 0},
            {0}, {Checks.TOP}};
        int[][] not = {{97, 768}, {1000, 803}, {1003}, {1004}, {768, 803}, {4352, 4449}, {44032, 4520}, {98, 97, 768},
            {97, 768, 98}, {98, 1003}, {1003, 98}, {98, 98, 1004}, {97, 98, 768, 803}};
        for (int[] row : in) {
            dueInForm(t.copy().row(row), row, 1);
        }
        for (int[] row : not) {
            dueInForm(t.copy().row(row), row, 0);
        }
    }

    private static void dueInForm(Told told, int[] row, int want) {
        Names x = told.fresh();
        C.due("13: inForm() of " + java.util.Arrays.toString(row), x.inForm(), want);
        C.due("13: the row as it was", Checks.row(x), row);
        C.due("13: THE TEXT as it was", x.read(), 2);
    }

    private static void inFormOfTooLong() {
        Told t = NEW.copy().parts(1000, 97, 98, false);
        String half = Checks.of(Checks.many(150, 1000));
        C.due("13: 300 apart", read(t, half), Names::inForm, 1);
        C.due("13: 301 apart", read(t, half + "c"), Names::inForm, 0);
        C.due("13: 301 apart, the point first", read(t, "c" + half), Names::inForm, 0);
        Names x = read(t, half + "c").fresh();
        x.inForm();
        C.due("13: the row as it was", Checks.row(x), Checks.join(Checks.many(150, 1000), row('c')));
        C.due("13: 300 points", NEW.copy().rowOf(300, 'c'), Names::inForm, 1);
        C.due("13: far too long", doubled().row(1099), Names::inForm, 0);
    }

    // 14: "Whether THE TEXT, READ, and the row at hand, come APART into the same: 1, 0. -10 less the place of a fault of
    // THE TEXT, -4 THE TEXT has more than 300 points (as read()), or one of both comes APART into more."

    private static void alike() {
        dueAlike("", row(), 1);
        dueAlike("", row(97), 0);
        dueAlike("a", row(), 0);
        dueAlike("a", row(97), 1);
        dueAlike("a", row(98), 0);
        String text = Checks.of(1002, 98);
        dueAlike(text, row(97, 768, 803, 98), 1);
        dueAlike(text, row(97, 803, 768, 98), 1);
        dueAlike(text, row(1000, 803, 98), 1);
        dueAlike(text, row(1002, 98), 1);
        dueAlike(text, row(1002), 0);
        dueAlike(text, row(1002, 98, 99), 0);
        dueAlike(text, row(1002, 99), 0);
        dueAlike(text, row(1001, 98), 0);
        dueAlike(Checks.of(97, 768, 769), row(97, 769, 768), 0);
        dueAlike(Checks.of(98, 768), row(1004), 1);
        dueAlike(Checks.of(1003), row(1000), 1);
        dueAlike(Checks.of(44033), row(4352, 4449, 4520), 1);
        dueAlike(Checks.of(4352, 4449, 4520), row(44032, 4520), 1);
        dueAlike(Checks.of(Checks.TOP), row(Checks.TOP), 1);
        dueAlike(Checks.of(Checks.TOP), row(Checks.TOP - 1), 0);
    }

    private static void dueAlike(String text, int[] row, int want) {
        Names x = told().text(text).row(row).fresh();
        C.due("14: alike() of " + text + " and " + java.util.Arrays.toString(row), x.alike(), want);
        C.due("14: the row as it was", Checks.row(x), row);
        C.due("14: THE TEXT as it was", x.read(), Checks.points(text).length);
        C.due("14: THE TEXT as it was", Checks.row(x), Checks.points(text));
    }

    private static void alikeOfAFault() {
        Told t = told().row(97);
        C.refused("14: a fault at 0", t.copy().text(255), Names::alike, -10);
        C.refused("14: a fault at 1", t.copy().text('a', 255), Names::alike, -11);
        C.refused("14: a fault at the end", t.copy().text('a', 195), Names::alike, -12);
        C.refused("14: a fault at 400", t.copy().text(Checks.join(Checks.octets("\u20ac".repeat(133)), row(226))),
                Names::alike, -410);
        C.refused("14: a fault before the row that is too long", doubled().row(1008).text(255), Names::alike, -10);
        C.refused("14: a fault behind what is too long, apart", doubled().text(Checks.join(Checks.octets(Checks.of(1008)),
                row(255))), Names::alike, -12);
    }

    private static void alikeOfTooLong() {
        int[] all = Checks.many(300, 'a');
        C.due("14: 300 points", NEW.copy().rowOf(300, 'a').text(all), Names::alike, 1);
        C.due("14: 300 points, and 299", NEW.copy().rowOf(299, 'a').text(all), Names::alike, 0);
        C.refused("14: 301 points", NEW.copy().rowOf(300, 'a').text(Checks.many(301, 'a')), Names::alike, -4);
        C.refused("14: a fault instead of the 301st", NEW.copy().row(97).text(Checks.join(all, row(255))),
                Names::alike, -310);
        C.refused("14: the 301st before a fault", NEW.copy().row(97).text(Checks.join(all, row('a', 255))),
                Names::alike, -4);
        int[] fits = {1007, 1004, 1002, 1001};
        int[] more = {1007, 1004, 1002, 1001, 97};
        C.due("14: both 300, apart", doubled().text(Checks.of(fits)).row(fits), Names::alike, 1);
        C.due("14: THE TEXT 300, apart", doubled().text(Checks.of(fits)).row(97), Names::alike, 0);
        C.due("14: the row 300, apart", doubled().text("a").row(fits), Names::alike, 0);
        C.refused("14: THE TEXT 301, apart", doubled().text(Checks.of(more)).row(fits), Names::alike, -4);
        C.refused("14: the row 301, apart", doubled().text(Checks.of(fits)).row(more), Names::alike, -4);
        C.refused("14: both 301, apart", doubled().text(Checks.of(more)).row(more), Names::alike, -4);
        C.refused("14: THE TEXT too long, nothing else", doubled().text(Checks.of(more)), Names::alike, -4);
        C.refused("14: the row too long, nothing else", doubled().row(1099), Names::alike, -4);
    }
}
