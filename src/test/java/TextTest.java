/** Promises 1 to 5: a new object, feed, read, point, add. */
public final class TextTest {
    private static final Checks C = new Checks();
    private static final Told NEW = new Told();
    private static final int[] LARGE = {Integer.MIN_VALUE, Integer.MIN_VALUE + 1, Integer.MAX_VALUE - 1,
        Integer.MAX_VALUE};

    public static void main(String[] args) {
        newObjectHasNothing();
        newObjectHasTablesAsAtFirst();
        callsUpToThe512th();
        feedPutsTheHighestFirst();
        feedOfNoneToEight();
        feedOfNoneEmpties();
        textHas400Octets();
        readOfPointsOfAllSizes();
        readIsTheTextFromTheLeft();
        firstOctets();
        secondOctets();
        laterOctets();
        textEndsWithinAPoint();
        rowOfReadHas300();
        faultsAboutThe301st();
        refusedReadChangesNothing();
        pointsOfTheRow();
        addOfPoints();
        addOfMinusOneEmpties();
        rowOfAddHas300();
        C.end();
    }

    // 1: "An empty text, an empty row, tables as at first."

    private static void newObjectHasNothing() {
        C.due("1: read() of a new object", NEW, Names::read, 0);
        C.due("1: point(0) of a new object", NEW, x -> x.point(0), -1);
        C.due("1: encode() of a new object", NEW, Names::encode, 0);
        C.due("1: decode() of a new object", NEW, Names::decode, 0);
        C.due("1: form(0) of a new object", NEW, x -> x.form(0), 0);
        C.due("1: form(1) of a new object", NEW, x -> x.form(1), 0);
        C.due("1: inForm() of a new object", NEW, Names::inForm, 1);
        C.due("1: alike() of a new object", NEW, Names::alike, 1);
        C.due("1: map() to the row of a new object", NEW, x -> x.map(200), -2);
        C.due("1: make(false) of a new object", NEW, x -> x.make(false), 0);
        C.due("1: make(true) of a new object", NEW, x -> x.make(true), -61);
        C.due("1: the first octet is the first", NEW, x -> x.feed('a', 1), 1);
        C.due("1: the first point is the first", NEW, x -> x.add('a'), 1);
        C.due("1: octet(0) of a new object", NEW, x -> x.octet(0), -1);
        C.due("1: fault() of a new object", Checks.faults(NEW.fresh()), 0, 0, 0, 0);
    }

    private static void newObjectHasTablesAsAtFirst() {
        Names x = NEW.fresh();
        for (int p = 0; p < 128; p++) {
            boolean small = p >= 'a' && p <= 'z' || p >= '0' && p <= '9' || p == '-' || p == '.';
            boolean big = p >= 'A' && p <= 'Z';
            C.due("1: about(" + p + ", 0)", x.about(p, 0), small ? 0 : big ? 2 : 3);
            C.due("1: about(" + p + ", 3)", x.about(p, 3), p >= '0' && p <= '9' ? 4 : p == '-' ? 5 : 0);
            C.due("1: about(" + p + ", 2)", x.about(p, 2), 0);
        }
        Names y = NEW.fresh();
        for (int p = 0; p < 128; p++) {
            C.due("1: about(" + p + ", 1)", y.about(p, 1), 0);
            C.due("1: about(" + p + ", 4)", y.about(p, 4), 0);
        }
        Names z = NEW.fresh();
        for (int p : new int[] {128, 129, 255, 768, 1488, 1632, 2381, 8204, 44032, 55295, 57344, 65536, Checks.TOP}) {
            for (int what = 0; what <= 4; what++) {
                C.due("1: about(" + p + ", " + what + ")", z.about(p, what), 0);
            }
            C.dueRow("1: APART is a point alone", NEW.copy().row(p), n -> n.form(0), apartAtFirst(p));
        }
    }

    private static int[] apartAtFirst(int p) {
        return p == 44032 ? new int[] {4352, 4449} : new int[] {p};
    }

    private static void callsUpToThe512th() {
        Names x = NEW.fresh();
        for (int i = 1; i <= 300; i++) {
            x.add(i);
        }
        for (int i = 0; i < 211; i++) {
            C.due("1: call " + (301 + i), x.point(i), i + 1);
        }
        C.due("1: the 512th call", x.point(299), 300);
        C.due("1: all calls were made", x.left(), 0);
    }

    // 2: "The n lowest octets of v, the highest first, come behind THE TEXT: how many it has; with n = 0 it is empty: 0.
    // -2 n is not 0 .. 8, -4."

    private static void feedPutsTheHighestFirst() {
        long v = 0x0102030405060708L;
        for (int n = 1; n <= 8; n++) {
            int[] want = new int[n];
            for (int i = 0; i < n; i++) {
                want[i] = 9 - n + i;
            }
            int count = n;
            C.dueRow("2: the lowest " + n, NEW.copy().then(x -> x.feed(v, count)), Names::read, want);
        }
        C.dueRow("2: eight octets 0", NEW.copy().then(x -> x.feed(0, 8)), Names::read, 0, 0, 0, 0, 0, 0, 0, 0);
        C.due("2: -1 is octets 255", NEW.copy().then(x -> x.feed('a', 1)).then(x -> x.feed(-1L, 8)), Names::read, -11);
        C.due("2: the least long is 128 first", NEW.copy().then(x -> x.feed(Long.MIN_VALUE, 8)), Names::read, -10);
        C.due("2: the greatest long is 127 first", NEW.copy().then(x -> x.feed(Long.MAX_VALUE, 8)), Names::read, -11);
        C.dueRow("2: the highest bit set", NEW.copy().then(x -> x.feed(0xC3A4C3B6C3BCC39FL, 8)), Names::read,
                228, 246, 252, 223);
        C.dueRow("2: what is above the n lowest does not count", NEW.copy().then(x -> x.feed(-256L + 'b', 1)),
                Names::read, 'b');
        Names x = NEW.fresh();
        x.feed(0x6162L, 1);
        x.feed(0xFF6162L, 2);
        C.due("2: one behind the other", x.feed(0x6162636465666768L, 8), 11);
        C.due("2: and read", x.read(), 11);
        C.due("2: from the left", Checks.row(x), Checks.points("bababcdefgh"));
    }

    private static void feedOfNoneToEight() {
        Told some = NEW.copy().text("ab").row('r');
        for (int n = 1; n <= 8; n++) {
            int count = n;
            C.due("2: feed of " + n, some, x -> x.feed(0x6161616161616161L, count), 2 + n);
        }
        C.due("2: feed of 0", some, x -> x.feed(0x6161616161616161L, 0), 0);
        for (int n : Checks.join(LARGE, new int[] {-8, -1, 9, 10, 16, 64, 256, 264})) {
            C.refused("2: feed, n = " + n, some, x -> x.feed('a', n), -2);
        }
    }

    private static void feedOfNoneEmpties() {
        C.due("2: feed of none, nothing there", NEW, x -> x.feed(-1, 0), 0);
        Names x = NEW.copy().text("abc").fresh();
        C.due("2: feed of none empties", x.feed('z', 0), 0);
        C.due("2: nothing is there", x.read(), 0);
        C.due("2: the next octet is the first", x.feed('z', 1), 1);
        C.due("2: it alone is there", x.read(), 1);
        C.due("2: it is that", x.point(0), 'z');
        Names full = NEW.copy().text(Checks.many(400, 'a')).fresh();
        C.due("2: feed of none when full", full.feed(0, 0), 0);
        C.due("2: and there is room", full.feed(0x6161616161616161L, 8), 8);
    }

    private static void textHas400Octets() {
        long v = 0x6262626262626262L;
        for (int n = 1; n <= 8; n++) {
            int count = n;
            Told fits = NEW.copy().text(Checks.many(400 - n, 'a'));
            C.due("2: feed of " + n + " to 400", fits, x -> x.feed(v, count), 400);
            Told one = NEW.copy().text(Checks.many(401 - n, 'a'));
            C.refused("2: feed of " + n + " to 401", one, x -> x.feed(v, count), -4);
        }
        Told full = NEW.copy().text(Checks.join(Checks.many(398, 'a'), new int[] {195, 188}));
        C.refused("2: feed to 401", full, x -> x.feed('a', 1), -4);
        C.refused("2: feed to 408", full, x -> x.feed(v, 8), -4);
        C.refused("2: -2 before -4, 9", full, x -> x.feed(v, 9), -2);
        C.refused("2: -2 before -4, -1", full, x -> x.feed(v, -1), -2);
        Names x = NEW.copy().text(Checks.many(393, 'a')).fresh();
        C.due("2: eight have no room", x.feed(v, 8), -4);
        C.due("2: but seven have", x.feed(v, 7), 400);
        // 133 points of three octets: the last one of the 400 octets is a point of its own.
        C.due("2: all 400 are read", NEW.copy().text("\u20ac".repeat(133) + "z"), Names::read, 134);
        C.due("2: the last of 400", NEW.copy().text("\u20ac".repeat(133) + "z").then(Names::read),
                n -> n.point(133), 'z');
    }

    // 3: "THE TEXT is READ as a row: how many points; -10 less the place of the fault. -4 they are more than 300 (if
    // the 301st comes before a fault)."

    private static Told textOf(int... octets) {
        return NEW.copy().row('r', 's').text(octets);
    }

    private static void dueRead(int[] octets, int... want) {
        C.dueRow("3: read() of " + java.util.Arrays.toString(octets), textOf(octets), Names::read, want);
    }

    private static void dueFault(int place, int... octets) {
        C.due("3: read() of " + java.util.Arrays.toString(octets), textOf(octets), Names::read, -10 - place);
    }

    private static void readOfPointsOfAllSizes() {
        dueRead(new int[] {});
        dueRead(new int[] {0, 127}, 0, 127);
        dueRead(new int[] {194, 128, 223, 191}, 128, 2047);
        dueRead(new int[] {224, 160, 128, 239, 191, 191}, 2048, 65535);
        dueRead(new int[] {237, 159, 191, 238, 128, 128}, 55295, 57344);
        dueRead(new int[] {240, 144, 128, 128, 244, 143, 191, 191}, 65536, 1114111);
        int[] edges = {1, 126, 129, 191, 192, 193, 2046, 2049, 4095, 4096, 8191, 8192, 55294, 57345, 61440, 65534, 65537,
            131071, 196608, 262143, 262144, 262145, 524287, 524288, 786432, 1048575, 1048576, 1114110};
        for (int p : edges) {
            dueRead(Checks.octets(Checks.of('a', p, 'b')), 'a', p, 'b');
        }
    }

    private static void readIsTheTextFromTheLeft() {
        Names x = NEW.copy().row('r', 's').text("b\u00fc").fresh();
        C.due("3: read", x.read(), 2);
        C.due("3: the row is what was read", Checks.row(x), 'b', 252);
        x.add('c');
        C.due("3: read again, THE TEXT is as it was", x.read(), 2);
        C.due("3: the row is what was read", Checks.row(x), 'b', 252);
        x.feed('d', 1);
        C.due("3: more behind it", x.read(), 3);
        x.feed(0, 0);
        C.due("3: nothing", x.read(), 0);
        C.due("3: the row is empty", Checks.row(x));
    }

    /** No octets of a point begin with 128 .. 191, longer than need be are 192 and 193, above the points 245 .. 255. */
    private static void firstOctets() {
        for (int o = 0; o < 256; o++) {
            int want = o < 128 ? 1 : o < 194 || o > 244 ? -10 : -11;
            C.due("3: first octet " + o, textOf(o), Names::read, want);
            C.due("3: first octet " + o + ", behind others", textOf('a', 195, 188, o), Names::read,
                    want == 1 ? 3 : want - 3);
        }
    }

    /** With 224 and 240 it would be longer than need be, with 237 none of the points, with 244 above them. */
    private static void secondOctets() {
        for (int first = 194; first <= 244; first++) {
            int low = first == 224 ? 160 : first == 240 ? 144 : 128;
            int high = first == 237 ? 159 : first == 244 ? 143 : 191;
            for (int second = 0; second < 256; second++) {
                int place = second < low || second > high ? 1 : 2;
                int want = place == 2 && first < 224 ? 1 : -10 - place;
                C.due("3: octets " + first + " " + second, textOf(first, second), Names::read, want);
            }
        }
    }

    private static void laterOctets() {
        int[][] begun = {{226, 130}, {224, 160}, {237, 159}, {240, 144, 128}, {240, 144}, {244, 143, 191}, {244, 143},
            {241, 128, 191}};
        for (int[] b : begun) {
            boolean last = b.length == (b[0] < 240 ? 2 : 3);
            for (int o : new int[] {0, 127, 128, 129, 143, 144, 159, 160, 190, 191, 192, 255}) {
                boolean goesOn = o >= 128 && o <= 191;
                int[] octets = Checks.join(new int[] {'a'}, b, new int[] {o});
                int place = goesOn ? octets.length : octets.length - 1;
                C.due("3: octets " + java.util.Arrays.toString(octets), textOf(octets), Names::read,
                        goesOn && last ? 2 : -10 - place);
            }
        }
        dueFault(2, 'a', 194, 'b', 128);
        dueFault(3, 226, 130, 172, 130);
        dueFault(4, 226, 130, 172, 226, 'a');
    }

    private static void textEndsWithinAPoint() {
        dueFault(1, 194);
        dueFault(1, 224);
        dueFault(2, 224, 160);
        dueFault(1, 240);
        dueFault(2, 240, 144);
        dueFault(3, 240, 144, 128);
        dueFault(4, 226, 130, 172, 195);
        C.due("3: whole at the end of 399", textOf(Checks.octets("\u20ac".repeat(133))), Names::read, 133);
        C.due("3: a fault at the end of 400", textOf(Checks.join(Checks.octets("\u20ac".repeat(133)), new int[] {226})),
                Names::read, -410);
        C.due("3: a fault at the last of 400", textOf(Checks.join(Checks.octets("\u20ac".repeat(133)), new int[] {255})),
                Names::read, -409);
    }

    private static void rowOfReadHas300() {
        int[] last = {195, 188};
        C.dueRow("3: 299 points", textOf(Checks.many(299, 'a')), Names::read, Checks.many(299, 'a'));
        C.dueRow("3: 300 points", textOf(Checks.join(Checks.many(299, 'a'), last)), Names::read,
                Checks.join(Checks.many(299, 'a'), new int[] {252}));
        C.due("3: 301 points", textOf(Checks.many(301, 'a')), Names::read, -4);
        C.due("3: 301 points, the last of two octets", textOf(Checks.join(Checks.many(300, 'a'), last)), Names::read, -4);
        C.due("3: 400 points", textOf(Checks.many(400, 'a')), Names::read, -4);
    }

    private static void faultsAboutThe301st() {
        int[] all = Checks.many(300, 'a');
        int[] one = {'a'};
        C.due("3: a fault behind 299", textOf(Checks.join(Checks.many(299, 'a'), new int[] {255})), Names::read, -309);
        C.due("3: a fault instead of the 301st", textOf(Checks.join(all, new int[] {255})), Names::read, -310);
        C.due("3: a fault in the 301st", textOf(Checks.join(all, new int[] {195, 'a'})), Names::read, -311);
        C.due("3: the end in the 301st", textOf(Checks.join(all, new int[] {195})), Names::read, -311);
        C.due("3: the end in the 301st of four", textOf(Checks.join(all, new int[] {240, 144, 128})), Names::read, -313);
        C.due("3: the 301st before a fault", textOf(Checks.join(all, one, new int[] {255})), Names::read, -4);
        C.due("3: the 301st before the end", textOf(Checks.join(all, one, new int[] {195})), Names::read, -4);
    }

    private static void refusedReadChangesNothing() {
        C.refused("3: a fault", textOf('a', 255), Names::read, -11);
        C.refused("3: a fault at the end", textOf('a', 195), Names::read, -12);
        C.refused("3: 301 points", textOf(Checks.many(301, 'a')), Names::read, -4);
    }

    // 4: "Point i of the row at hand. -1 there is none."

    private static void pointsOfTheRow() {
        Told two = NEW.copy().row(5, Checks.TOP);
        C.due("4: point(0)", two, x -> x.point(0), 5);
        C.due("4: point(1)", two, x -> x.point(1), Checks.TOP);
        for (int i : Checks.join(LARGE, new int[] {-1, -2, 2, 3, 299, 300, 301, 400})) {
            C.refused("4: point(" + i + ") of two", two, x -> x.point(i), -1);
        }
        Told full = NEW.copy().rowOf(300, 'a');
        C.due("4: point(299) of 300", full, x -> x.point(299), 'a');
        C.refused("4: point(300) of 300", full, x -> x.point(300), -1);
        C.refused("4: point(-1) of 300", full, x -> x.point(-1), -1);
        C.refused("4: point(0) of none", NEW, x -> x.point(0), -1);
        C.due("4: point 0 is one", NEW.copy().row(0), x -> x.point(0), 0);
        C.due("4: none behind it", NEW.copy().row(0), x -> x.point(1), -1);
        C.due("4: none after the row was longer", NEW.copy().row('a', 'b').row('c'), x -> x.point(1), -1);
    }

    // 5: "A point comes behind the row at hand: how many it has; with -1 it is empty: 0. -2 it is none of the POINTS,
    // -4."

    private static void addOfPoints() {
        Told some = NEW.copy().row('r', 's');
        for (int p : Checks.LAST_POINTS) {
            C.dueRow("5: add(" + p + ")", some, x -> x.add(p), 'r', 's', p);
        }
        for (int p : Checks.NO_POINTS) {
            if (p != -1) {
                C.refused("5: add(" + p + ")", some, x -> x.add(p), -2);
            }
        }
        C.refused("5: add(-2)", some, x -> x.add(-2), -2);
    }

    private static void addOfMinusOneEmpties() {
        C.dueRow("5: add(-1) to none", NEW, x -> x.add(-1));
        C.dueRow("5: add(-1) to two", NEW.copy().row('r', 's'), x -> x.add(-1));
        C.dueRow("5: add(-1) to 300", NEW.copy().rowOf(300, 'a'), x -> x.add(-1));
        C.dueRow("5: and a point behind that", NEW.copy().rowOf(300, 'a').then(x -> x.add(-1)), x -> x.add('b'), 'b');
        Names x = NEW.copy().text("ab").row('r').fresh();
        x.add(-1);
        C.due("5: THE TEXT stays", x.read(), 2);
    }

    private static void rowOfAddHas300() {
        Names x = NEW.fresh();
        for (int i = 1; i <= 300; i++) {
            C.due("5: add to " + i, x.add(i), i);
        }
        C.due("5: add of a 301st", x.add(7), -4);
        C.due("5: the last is as it was", x.point(299), 300);
        Told full = NEW.copy().rowOf(300, 'a');
        C.due("5: add to 300", NEW.copy().rowOf(299, 'a'), n -> n.add('b'), 300);
        C.refused("5: add of a 301st", full, n -> n.add('b'), -4);
        C.refused("5: -2 before -4", full, n -> n.add(55296), -2);
        C.refused("5: -2 before -4, -2", full, n -> n.add(-2), -2);
    }
}
