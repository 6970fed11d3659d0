/** Promise 17, 3: LABELS, looked at one by one, with the faults 30 to 45, and 60 of a label. */
public final class LabelsTest {
    private static final Checks C = new Checks();
    private static final Told NEW = new Told();
    private static final int NON_JOINER = 8204;
    private static final int JOINER = 8205;
    private static final String UE = "\u00fc";

    public static void main(String[] args) {
        partedByDots();
        emptyOnes();
        beginsWithPrefix();
        decodedPlaces();
        nothingWide();
        apartOfALabelHas300();
        notInForm();
        whereOneOfBothEnds();
        looksAtWhatWasDecoded();
        thirdAndFourth();
        beginsOrEndsWithADash();
        firstIsAMark();
        notValid();
        notValidOfOtherStatus();
        joinersBehindRank9();
        joinersAtTheEnds();
        nonJoinerBetweenJoinings();
        nonJoinerOverThrough();
        firstJoinerThatDoesNotFit();
        orderOfFaults();
        labelsLookedAtWhole();
        C.end();
    }

    private static String of(int... points) {
        return Checks.of(points);
    }

    private static String coded(int... points) {
        return Checks.coded(points);
    }

    private static String coded(String s) {
        return Checks.coded(Checks.points(s));
    }

    // "3 LABELS, parted by . (one at least, perhaps empty), are looked at one by one; PLACES are in the label as it
    // stands then. An empty one is right."

    private static void partedByDots() {
        C.dueMade(NEW, "a", false, "a", 1);
        C.dueMade(NEW, "a.b", false, "a.b", 2);
        C.dueMade(NEW, "a.bc.def", false, "a.bc.def", 3);
        C.dueMade(NEW, "a.".repeat(150), false, "a.".repeat(150), 151);
        C.dueFault(NEW, "-", false, 42, 0, 0, 0);
        C.dueFault(NEW, "a.b-", false, 42, 1, 1, 1);
        C.dueFault(NEW, "abc." + UE + "b.cd-", false, 42, 2, 2, 2);
        C.dueFault(NEW, "a.".repeat(149) + "-", false, 42, 149, 0, 149);
    }

    private static void emptyOnes() {
        C.dueMade(NEW, "", false, "", 1);
        C.dueMade(NEW, ".", false, ".", 2);
        C.dueMade(NEW, "a.", false, "a.", 2);
        C.dueMade(NEW, ".a", false, ".a", 2);
        C.dueMade(NEW, "..a.", false, "..a.", 4);
        C.dueMade(NEW, ".".repeat(299), false, ".".repeat(299), 300);
        C.dueMade(NEW, ".".repeat(300), false, ".".repeat(300), 301);
        C.dueFault(NEW, "..-", false, 42, 2, 0, 2);
        C.dueFault(NEW, ".".repeat(299) + "-", false, 42, 299, 0, 299);
    }

    // "One that begins with xn-- is DECODED behind that: 30 with the PLACE in the label of the fault (FULL, too)"

    private static void beginsWithPrefix() {
        C.dueMade(NEW, "xn--tda", false, UE, 1);
        C.dueMade(NEW, "XN--TDA", false, UE, 1);
        C.dueMade(NEW, "a.xn--tda.b", false, "a." + UE + ".b", 3);
        C.dueMade(NEW, "xn--a", false, "\u0080", 1);
        C.dueMade(NEW, "x.xn.xna.xn-a.x-n.xnn-a.axn-b", false, "x.xn.xna.xn-a.x-n.xnn-a.axn-b", 7);
        C.dueFault(NEW, "xn-", false, 42, 0, 2, 0);
        C.dueFault(NEW, "xn--", false, 32, 0, 0, 0);
        C.dueFault(NEW, "xa--tda", false, 41, 0, 2, 0);
        C.dueFault(NEW, "an--tda", false, 41, 0, 2, 0);
        C.dueFault(NEW, "nx--tda", false, 41, 0, 2, 0);
        C.dueMade(NEW, "axn--tda", false, "axn--tda", 1);
        Told capital = NEW.copy().status('X', 'X', 0).status('N', 'N', 0);
        C.dueFault(capital, "Xn--tda", false, 41, 0, 2, 0);
        C.dueFault(capital, "xN--tda", false, 41, 0, 2, 0);
        C.dueMade(capital, "Xn-a.xN-a", false, "Xn-a.xN-a", 2);
        C.dueMade(NEW.copy().map(1000, "xn--"), of(1000) + "tda", false, UE, 1);
        C.dueMade(NEW.copy().map(1000, ".xn-"), "a" + of(1000) + "-tda", false, "a." + UE, 2);
        C.dueMade(NEW.copy().status('T', 'T', 0), "xn--Tda", false, UE, 1);
    }

    private static void decodedPlaces() {
        C.dueFault(NEW, "xn---", false, 30, 0, 4, 0);
        C.dueFault(NEW, "xn---a", false, 30, 0, 4, 0);
        C.dueFault(NEW, "xn--" + UE, false, 30, 0, 4, 0);
        C.dueFault(NEW, "xn--b", false, 30, 0, 5, 0);
        C.dueFault(NEW, "xn--td", false, 30, 0, 6, 0);
        C.dueFault(NEW, "a.b.xn--bcher-kv.xn--", false, 30, 2, 12, 2);
        C.dueFault(NEW, "xn--t" + UE + "a", false, 30, 0, 5, 0);
        C.dueFault(NEW, "xn--t.a" + UE, false, 30, 0, 5, 0);
        C.dueFault(NEW, "xn---" + UE, false, 30, 0, 5, 0);
        C.dueFault(NEW.copy().status('!', '!', 0), ".xn--t!", false, 30, 1, 5, 1);
        C.dueFault(NEW.copy().status('!', '!', 0), "xn--!", false, 30, 0, 4, 0);
        C.dueFault(NEW, "xn--99999999", false, 30, 0, 11, 0);
        C.dueFault(NEW, "xn--hb9bb", false, 30, 0, 8, 0);
        C.dueFault(NEW, "xn--dn32gba", false, 30, 0, 10, 0);
        C.dueFault(NEW, "xn--" + "a".repeat(295) + "0", false, 30, 0, 300, 0);
        C.dueFault(NEW.copy().parts(502, 97, 98, false), coded(251, 97, 98), false, 30, 0, 4, 0);
    }

    // "32 at 0 if it has no point above 127 then"

    private static void nothingWide() {
        C.dueFault(NEW, "a.xn--", false, 32, 1, 0, 1);
        C.dueFault(NEW, "xn--abc-", false, 32, 0, 0, 0);
        C.dueFault(NEW, "xn----", false, 32, 0, 0, 0);
        C.dueFault(NEW, "xn----a-", false, 32, 0, 0, 0);
        Told t = NEW.copy().status(127, 127, 0);
        C.dueFault(t, "xn--\u007f-", false, 32, 0, 0, 0);
        C.dueMade(t, "xn--\u007f-a", false, "\u0080\u007f", 1);
        C.dueMade(t, "xn--a", false, "\u0080", 1);
        C.dueFault(t, "xn--" + "a".repeat(295) + "-", false, 32, 0, 0, 0);
    }

    // "it stands then for what was decoded, and is looked at: 60 at 0 (of that label): its APART has more than 300
    // points"

    private static void apartOfALabelHas300() {
        String fits = coded(Checks.many(100, 44033));
        String more = coded(Checks.many(101, 44033));
        C.dueMade(NEW, "b." + fits, false, "b." + of(Checks.many(100, 44033)), 2);
        C.dueFault(NEW, more, false, 60, 0, 0, 0);
        C.dueFault(NEW, "b." + more + ".-", false, 60, 1, 0, 1);
        C.dueFault(NEW, "-b." + more, false, 42, 0, 0, 0);
        C.dueMade(NEW, fits + "." + fits, false, of(Checks.many(100, 44033)) + "." + of(Checks.many(100, 44033)), 2);
        String one = coded(Checks.join(Checks.many(100, 44033), new int[] {129}));
        C.dueFault(NEW, one, false, 60, 0, 0, 0);
        String alsoApart = coded(Checks.join(Checks.many(101, 44033), new int[] {4352, 4449}));
        C.dueFault(NEW, alsoApart, false, 60, 0, 0, 0);
    }

    // "40 it is not in form (at the first point that differs from its one form, or where one of both ends)"

    private static Told withParts() {
        return NEW.copy().rank(768, 230).rank(803, 220).parts(1000, 97, 768, false).parts(1001, 97, 803, false)
                .parts(1002, 1001, 768, false).parts(1003, 98, 768, true).parts(1004, 252, 253, false)
                .parts(1005, 1004, 252, true).parts(1006, 252, 0, false);
    }

    private static void notInForm() {
        Told t = withParts();
        C.dueMade(t, coded(1000), false, of(1000), 1);
        C.dueMade(t, coded('b', 768), false, "b\u0300", 1);
        C.dueFault(t, coded(97, 768), false, 40, 0, 0, 0);
        C.dueFault(t, "a." + coded('b', 97, 768, 'c'), false, 40, 1, 1, 1);
        C.dueFault(t, coded('b', 768, 803), false, 40, 0, 1, 0);
        C.dueFault(t, coded('b', 'c', 1003), false, 40, 0, 2, 0);
        C.dueFault(t, coded(44032, 4520), false, 40, 0, 0, 0);
        C.dueFault(t, coded(1006), false, 40, 0, 0, 0);
        C.dueFault(t, coded('a', 'b', 1006), false, 40, 0, 2, 0);
        C.dueFault(t, coded('a', 'b', 1006, 'c'), false, 40, 0, 2, 0);
        C.dueFault(t, coded('b', 97, 803, 768), false, 40, 0, 1, 0);
        C.dueFault(t, coded(1001, 768), false, 40, 0, 0, 0);
    }

    /**
     * All that a row comes apart into is in its one form, too: so neither can be the other one's beginning alone, and
     * they differ before one of them ends, at its last point at the latest.
     */
    private static void whereOneOfBothEnds() {
        Told t = withParts();
        C.dueFault(t, coded(1004, 252, 253), false, 40, 0, 1, 0);
        C.dueFault(t, coded(1004, 1004, 252, 253), false, 40, 0, 2, 0);
        C.dueFault(t, coded(1004, 1005), false, 40, 0, 1, 0);
        C.dueFault(t, coded(1004, 1004, 1005), false, 40, 0, 2, 0);
        C.dueFault(t, coded('b', 1003), false, 40, 0, 1, 0);
        C.dueFault(t, coded(44032, 44032, 4520), false, 40, 0, 1, 0);
    }

    // "Then each: 41 its third and fourth points are - (at 2); 42 it begins (at 0), or ends (at the last one) with - ;
    // 43 its first point is a MARK (at 0); 44 at the first point that is not VALID (. too)"

    private static void looksAtWhatWasDecoded() {
        Told t = NEW.copy().range(0, 768, 768, 1).status(253, 253, 3);
        C.dueFault(t, coded('a', 252, '-', '-', 'b'), false, 41, 0, 2, 0);
        C.dueFault(t, coded('x', 'n', '-', '-', 252), false, 41, 0, 2, 0);
        C.dueFault(t, coded(252, '-'), false, 42, 0, 1, 0);
        C.dueFault(t, coded('-', 252), false, 42, 0, 0, 0);
        C.dueFault(t, coded(768, 'b'), false, 43, 0, 0, 0);
        C.dueFault(t, coded('a', 'b', 253), false, 44, 0, 2, 0);
        C.dueFault(t, coded('a', 'b', JOINER), false, 45, 0, 2, 0);
    }

    private static void thirdAndFourth() {
        C.dueFault(NEW, "a.ab--c", false, 41, 1, 2, 1);
        C.dueFault(NEW, "ab--", false, 41, 0, 2, 0);
        C.dueFault(NEW, "----", false, 41, 0, 2, 0);
        C.dueFault(NEW, "a---b", false, 41, 0, 2, 0);
        C.dueFault(NEW, UE + UE + "--" + UE, false, 41, 0, 2, 0);
        C.dueMade(NEW, "a--b.abc--d.ab-c.abc-d", false, "a--b.abc--d.ab-c.abc-d", 4);
        C.dueFault(NEW, "a--", false, 42, 0, 2, 0);
        C.dueFault(NEW, "ab-", false, 42, 0, 2, 0);
        C.dueFault(NEW, "abc-", false, 42, 0, 3, 0);
        C.dueFault(NEW, "ab-.-c", false, 42, 0, 2, 0);
    }

    private static void beginsOrEndsWithADash() {
        C.dueFault(NEW, "-", false, 42, 0, 0, 0);
        C.dueFault(NEW, "--", false, 42, 0, 0, 0);
        C.dueFault(NEW, "---", false, 42, 0, 0, 0);
        C.dueFault(NEW, "-a", false, 42, 0, 0, 0);
        C.dueFault(NEW, "a-", false, 42, 0, 1, 0);
        C.dueFault(NEW, "a.b.-c-", false, 42, 2, 0, 2);
        C.dueFault(NEW, "a" + "b".repeat(298) + "-", false, 42, 0, 299, 0);
        C.dueMade(NEW, "a-b.a-b-c", false, "a-b.a-b-c", 2);
        C.dueMade(NEW.copy().status('-', '-', 1), "-a-", false, "a", 1);
    }

    private static void firstIsAMark() {
        Told t = NEW.copy().range(0, 768, 879, 1).range(0, 800, 800, 0).range(0, 'm', 'm', 1);
        C.dueFault(t, "a." + of(768) + "b", false, 43, 1, 0, 1);
        C.dueFault(t, of(768), false, 43, 0, 0, 0);
        C.dueFault(t, of(879), false, 43, 0, 0, 0);
        C.dueFault(t, "ma", false, 43, 0, 0, 0);
        C.dueMade(t, of(767) + "." + of(880) + "." + of(800), false, of(767) + "." + of(880) + "." + of(800), 3);
        C.dueMade(t, "b" + of(768) + ".am", false, "b" + of(768) + ".am", 2);
    }

    private static void notValid() {
        Told t = NEW.copy().map(1000, "!").map(1001, "a!").map(1002, "A");
        C.dueFault(t, of(1000), false, 44, 0, 0, 0);
        C.dueFault(t, of(1001), false, 44, 0, 1, 0);
        C.dueFault(t, "b.c" + of(1001), false, 44, 1, 2, 1);
        C.dueFault(t, "ab" + of(1002), false, 44, 0, 2, 0);
        C.dueFault(t, "a" + of(1000, 1000), false, 44, 0, 1, 0);
        C.dueFault(t, "a".repeat(299) + of(1000), false, 44, 0, 299, 0);
        C.dueFault(NEW.copy().parts(400, 'a', '!', true), "b" + of(400), false, 44, 0, 2, 0);
    }

    /** MAP leaves none but VALID points, but what is decoded was not mapped. */
    private static void notValidOfOtherStatus() {
        Told t = NEW.copy().status(253, 253, 1).status(254, 254, 3).map(255, "a").status(300, 300, 3)
                .status(300, 300, 0);
        C.dueFault(t, coded('a', 253), false, 44, 0, 1, 0);
        C.dueFault(t, coded('a', 254), false, 44, 0, 1, 0);
        C.dueFault(t, coded('a', 255), false, 44, 0, 1, 0);
        C.dueFault(t, coded(255, 254, 253), false, 44, 0, 0, 0);
        C.dueFault(t, coded('a', 252, 253, 254), false, 44, 0, 2, 0);
        C.dueMade(t, coded('a', 252, 256, 300), false, "a" + of(252, 256, 300), 1);
    }

    // "45 at the first 8204 or 8205 that does not fit: before it stands a point of RANK 9, or, for 8204: before it, over
    // points of joining 4, one of 1 or 3, and behind it, over such, one of 2 or 3."

    private static void dueFit(Told t, String s) {
        C.dueMade(t, s, false, s, 1);
    }

    private static void dueMisfit(Told t, String s, int place) {
        C.dueFault(t, s, false, 45, 0, place, 0);
    }

    private static void joinersBehindRank9() {
        Told t = NEW.copy().rank(1000, 9).rank(1001, 8).rank(1002, 10).rank(1003, 1);
        for (int j : new int[] {NON_JOINER, JOINER}) {
            dueFit(t, "a" + of(1000, j));
            dueFit(t, "a" + of(1000, j) + "b");
            dueFit(t, of(1000, j));
            dueMisfit(t, "a" + of(1001, j), 2);
            dueMisfit(t, "a" + of(1002, j), 2);
            dueMisfit(t, "a" + of(1003, j), 2);
            dueMisfit(t, "a" + of(j, 1000), 1);
            dueMisfit(t, "a" + of(1000) + "b" + of(j), 3);
            dueMisfit(t, "a" + of(1000, j, j), 3);
            dueMisfit(t, "a" + of(j), 1);
            dueMisfit(t, "a" + of(j) + "b", 1);
            C.dueFault(t, of(1000) + "." + of(j), false, 45, 1, 0, 1);
        }
        dueFit(NEW, "a" + of(8203) + "b");
        dueFit(NEW, "a" + of(8206) + "b");
    }

    private static void joinersAtTheEnds() {
        for (int j : new int[] {NON_JOINER, JOINER}) {
            dueMisfit(NEW, of(j), 0);
            dueMisfit(NEW, of(j) + "a", 0);
            C.dueFault(NEW, "c." + of(j), false, 45, 1, 0, 1);
            dueMisfit(NEW, "a".repeat(299) + of(j), 299);
        }
        Told all = NEW.copy().range(2, 0, Checks.TOP, 3);
        dueMisfit(all, of(NON_JOINER), 0);
        dueMisfit(all, of(NON_JOINER) + "a", 0);
        dueMisfit(all, "a" + of(NON_JOINER), 1);
        dueFit(all, "a" + of(NON_JOINER) + "b");
        dueFit(all, "a" + of(NON_JOINER, NON_JOINER) + "b");
        dueMisfit(all, "a" + of(JOINER) + "b", 1);
        C.dueFault(all, "a" + of(NON_JOINER) + ".b", false, 45, 0, 1, 0);
        C.dueFault(all, "a." + of(NON_JOINER) + "b", false, 45, 1, 0, 1);
    }

    /** Small letters of their own joinings: l 1, r 2, d 3, t 4. */
    private static Told withJoinings() {
        return NEW.copy().range(2, 'l', 'l', 1).range(2, 'r', 'r', 2).range(2, 'd', 'd', 3).range(2, 't', 't', 4);
    }

    private static void nonJoinerBetweenJoinings() {
        Told t = withJoinings();
        String letters = "alrdt";
        for (char before : letters.toCharArray()) {
            for (char behind : letters.toCharArray()) {
                boolean fits = "ld".indexOf(before) >= 0 && "rd".indexOf(behind) >= 0;
                String s = before + of(NON_JOINER) + behind;
                if (fits) {
                    dueFit(t, s);
                } else {
                    dueMisfit(t, s, 1);
                }
                dueMisfit(t, before + of(JOINER) + behind, 1);
            }
        }
        dueFit(t.copy().rank(1000, 9), of(1000, NON_JOINER) + "l");
        C.dueMade(t, coded('l', NON_JOINER, 'r'), false, "l" + of(NON_JOINER) + "r", 1);
    }

    private static void nonJoinerOverThrough() {
        Told t = withJoinings();
        String[] fit = {"lt.r", "l.tr", "dtt.ttd", "all.rrl", "tlt.tdt", "l.trt", "ttl.r"};
        String[] misfit = {"t.r", "l.t", "tt.r", "l.tt", "lat.r", "l.tar", "rt.d", "dt.tl", "at.r", "l.ta", "ltat.r",
            "d.tlr"};
        for (String s : fit) {
            dueFit(t, s.replace(".", of(NON_JOINER)));
            dueMisfit(t, s.replace(".", of(JOINER)), s.indexOf('.'));
        }
        for (String s : misfit) {
            dueMisfit(t, s.replace(".", of(NON_JOINER)), s.indexOf('.'));
        }
        String far = "l" + "t".repeat(148) + of(NON_JOINER) + "t".repeat(148);
        dueFit(t, far + "r");
        dueMisfit(t, far + "l", 149);
        dueMisfit(t, far + "tt", 149);
        dueMisfit(t, "d" + of(NON_JOINER, NON_JOINER) + "d", 1);
        dueFit(t.copy().range(2, NON_JOINER, NON_JOINER, 4), "d" + of(NON_JOINER, NON_JOINER) + "d");
        dueFit(t.copy().range(2, JOINER, JOINER, 4).rank(1000, 9).range(2, 1000, 1000, 4),
                "d" + of(NON_JOINER, 1000, JOINER) + "d");
    }

    private static void firstJoinerThatDoesNotFit() {
        Told t = withJoinings().rank(1000, 9);
        dueMisfit(t, "l" + of(NON_JOINER) + "ra" + of(NON_JOINER), 4);
        dueMisfit(t, of(1000, JOINER) + "a" + of(JOINER, NON_JOINER), 3);
        dueMisfit(t, "a" + of(NON_JOINER) + "b" + of(JOINER), 1);
        dueMisfit(t, "a" + of(JOINER) + "b" + of(NON_JOINER), 1);
        dueFit(t, "l" + of(NON_JOINER) + "rl" + of(NON_JOINER) + "d" + of(NON_JOINER) + "d" + of(1000, JOINER));
    }

    private static void orderOfFaults() {
        Told t = NEW.copy().range(0, 'm', 'm', 1).range(0, 768, 768, 1).status(768, 768, 0).map(1000, "!")
                .range(0, '!', '!', 1).rank(301, 5).rank(302, 4);
        C.dueFault(t, "-a--", false, 41, 0, 2, 0);
        C.dueFault(t, "m!--".replace("!", of(1000)), false, 41, 0, 2, 0);
        C.dueFault(t, "m-", false, 42, 0, 1, 0);
        C.dueFault(t, of(1000) + "-", false, 42, 0, 1, 0);
        C.dueFault(t, of(JOINER) + "-", false, 42, 0, 1, 0);
        C.dueFault(t, of(1000), false, 43, 0, 0, 0);
        C.dueFault(t, "m" + of(1000, JOINER), false, 43, 0, 0, 0);
        C.dueFault(t, "a" + of(JOINER, 1000), false, 44, 0, 2, 0);
        // What is decoded must be in form before all else, and have points above 127 before that.
        C.dueFault(t, coded('-', 301, 302), false, 40, 0, 1, 0);
        C.dueFault(t, "xn---a-", false, 32, 0, 0, 0);
        C.dueFault(t, coded(Checks.join(new int[] {'-'}, Checks.many(101, 44033))), false, 60, 0, 0, 0);
        C.dueFault(t, coded(Checks.join(new int[] {301, 302}, Checks.many(101, 44033))), false, 60, 0, 0, 0);
    }

    // 18: "3 how many labels were looked at whole, without a fault of theirs by 30 to 45 or 60"

    private static void labelsLookedAtWhole() {
        Told t = NEW.copy().rank(1001, 9).map(1000, "!").range(0, 'm', 'm', 1);
        String[] wrong = {"xn--b", "xn--b-", coded(Checks.many(101, 44033)), coded(4352, 4449), "bc--d", "b-", "m",
            of(1000), of(JOINER)};
        int[] faults = {30, 32, 60, 40, 41, 42, 43, 44, 45};
        int[] places = {5, 0, 0, 0, 2, 1, 0, 0, 0};
        for (int i = 0; i < wrong.length; i++) {
            C.dueFault(t, wrong[i] + ".a", false, faults[i], 0, places[i], 0);
            C.dueFault(t, "." + wrong[i] + ".a", true, faults[i], 1, places[i], 1);
            C.dueFault(t, "a.xn--tda.." + wrong[i], false, faults[i], 3, places[i], 3);
        }
    }
}
