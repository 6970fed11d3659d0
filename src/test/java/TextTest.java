/** Promises 1 to 5: a new object, feed, read, point, add. */
public final class TextTest {
    private static final Checks C = new Checks();

    public static void main(String[] args) {
        newObject();
        feed();
        read();
        readFaults();
        readRoom();
        point();
        add();
        C.end();
    }

    private static void newObject() {
        WideNames x = new WideNames();
        C.due("1: read() of a new object", x.read(), 0);
        C.due("1: point(0) of a new object", x.point(0), -1);
        C.due("1: octet(0) of a new object", x.octet(0), -1);
        C.due("1: fault() of a new object", Checks.faults(x), 0, 0, 0, 0);
        C.due("1: alike() of nothing", x.alike(), 1);
        C.due("1: inForm() of nothing", x.inForm(), 1);
        for (int p = 0; p < 128; p++) {
            boolean small = p >= 'a' && p <= 'z' || p >= '0' && p <= '9' || p == '-' || p == '.';
            boolean big = p >= 'A' && p <= 'Z';
            C.due("1: about(" + p + ", 0)", x.about(p, 0), small ? 0 : big ? 2 : 3);
            C.due("1: about(" + p + ", 3)", x.about(p, 3), p >= '0' && p <= '9' ? 4 : p == '-' ? 5 : 0);
        }
        WideNames y = new WideNames();
        for (int p : new int[] {128, 255, 8204, 44032, 55295, 57344, 1114111}) {
            C.due("1: about(" + p + ", 0)", y.about(p, 0), 0);
            for (int what = 1; what <= 4; what++) {
                C.due("1: about(" + p + ", " + what + ")", y.about(p, what), 0);
            }
        }
    }

    private static void feed() {
        WideNames x = new WideNames();
        C.due("2: feed of none", x.feed(123, 0), 0);
        C.due("2: feed of one", x.feed(0x6162L, 1), 1);
        C.due("2: feed of two", x.feed(0xFF6162L, 2), 3);
        C.due("2: feed of eight", x.feed(0x6162636465666768L, 8), 11);
        C.due("2: feed, 9", x.feed(0, 9), -2);
        C.due("2: feed, -1", x.feed(0, -1), -2);
        C.due("2: feed, the least int", x.feed(0, Integer.MIN_VALUE), -2);
        C.due("2: read", x.read(), 11);
        C.due("2: the lowest octets, the highest first", Checks.row(x),
                'b', 'a', 'b', 'a', 'b', 'c', 'd', 'e', 'f', 'g', 'h');
        C.due("2: feed of eight, the highest bit set", x.feed(0xC3A4C3B6C3BCC39FL, 8), 19);
        C.due("2: read", x.read(), 15);
        C.due("2: feed of none empties", x.feed(-1, 0), 0);
        C.due("2: read of the emptied", x.read(), 0);
        C.due("2: the row is empty", Checks.row(x));
        for (int i = 1; i <= 49; i++) {
            C.due("2: feed to " + 8 * i, x.feed(0x6161616161616161L, 8), 8 * i);
        }
        C.due("2: feed to 399", x.feed(0x61616161616161L, 7), 399);
        C.due("2: feed above 400", x.feed(0x6161, 2), -4);
        C.due("2: feed out of range before no room", x.feed(0x6161, 9), -2);
        C.due("2: feed to 400", x.feed(0x62, 1), 400);
        C.due("2: feed above 400", x.feed(0x61, 1), -4);
        C.due("2: feed of none when full", x.feed(0x61, 0), 0);
    }

    private static int[] readOf(int... octets) {
        WideNames x = new WideNames();
        Checks.text(x, octets);
        int answer = x.read();
        return answer < 0 ? new int[] {answer} : Checks.row(x);
    }

    private static void read() {
        C.due("3: below 128", readOf(0, 127), 0, 127);
        C.due("3: two octets", readOf(194, 128, 223, 191), 128, 2047);
        C.due("3: three octets", readOf(224, 160, 128, 239, 191, 191), 2048, 65535);
        C.due("3: about the gap", readOf(237, 159, 191, 238, 128, 128), 55295, 57344);
        C.due("3: four octets", readOf(240, 144, 128, 128, 244, 143, 191, 191), 65536, 1114111);
        WideNames x = new WideNames();
        Checks.text(x, "b\u00fc");
        C.due("3: read", x.read(), 2);
        C.due("3: read again, THE TEXT is as it was", x.read(), 2);
        x.feed(0xC3, 1);
        C.due("3: a fault", x.read(), -13 - 1);
        C.due("3: the row as before the fault", Checks.row(x), 'b', 252);
    }

    private static void readFaults() {
        C.due("3: 128 first", readOf(128), -10);
        C.due("3: 191 first", readOf('a', 191), -11);
        C.due("3: 192 first", readOf(192, 128), -10);
        C.due("3: 193 first", readOf(193, 191), -10);
        C.due("3: 245 first", readOf('a', 'b', 245, 128, 128, 128), -12);
        C.due("3: 255 first", readOf(255), -10);
        C.due("3: two octets, one there", readOf(194), -11);
        C.due("3: two octets, no follower", readOf(194, 'a'), -11);
        C.due("3: two octets, 192 behind", readOf(194, 192), -11);
        C.due("3: three octets, longer than need be", readOf(224, 159, 191), -11);
        C.due("3: three octets, the gap", readOf(237, 160, 128), -11);
        C.due("3: three octets, the gap's end", readOf(237, 191, 191), -11);
        C.due("3: three octets, two there", readOf(226, 130), -12);
        C.due("3: three octets, the third wrong", readOf(226, 130, 'a'), -12);
        C.due("3: four octets, longer than need be", readOf(240, 143, 191, 191), -11);
        C.due("3: four octets, above the points", readOf(244, 144, 128, 128), -11);
        C.due("3: four octets, three there", readOf(240, 159, 152), -13);
        C.due("3: four octets, the fourth wrong", readOf(240, 159, 152, 200), -13);
        C.due("3: the first of two faults", readOf('a', 194, 'b', 128), -12);
    }

    private static void readRoom() {
        C.due("3: 300 points", readOf(Checks.many(300, 'a')).length, 300);
        C.due("3: 301 points", readOf(Checks.many(301, 'a')), -4);
        C.due("3: the 301st before a fault", readOf(Checks.join(Checks.many(301, 'a'), new int[] {255})), -4);
        C.due("3: a fault instead of the 301st", readOf(Checks.join(Checks.many(300, 'a'), new int[] {255})), -310);
        C.due("3: a fault in the 301st", readOf(Checks.join(Checks.many(300, 'a'), new int[] {195})), -311);
        C.due("3: a fault at the end of 400", readOf(Checks.join(Checks.many(200, 'a'),
                Checks.many(199, 'b'), new int[] {195})), -4);
        int[] threes = new int[399];
        for (int i = 0; i < 399; i += 3) {
            threes[i] = 226;
            threes[i + 1] = 130;
            threes[i + 2] = 172;
        }
        C.due("3: 133 of three octets", readOf(threes).length, 133);
        C.due("3: a fault at 400, the end", readOf(Checks.join(threes, new int[] {226})), -410);
    }

    private static void point() {
        WideNames x = Checks.row(new WideNames(), 5, 1114111);
        C.due("4: point(0)", x.point(0), 5);
        C.due("4: point(1)", x.point(1), 1114111);
        C.due("4: point(2)", x.point(2), -1);
        C.due("4: point(-1)", x.point(-1), -1);
        C.due("4: point(the greatest int)", x.point(Integer.MAX_VALUE), -1);
        C.due("4: point(the least int)", x.point(Integer.MIN_VALUE), -1);
        C.due("4: point(300)", x.point(300), -1);
    }

    private static void add() {
        WideNames x = new WideNames();
        C.due("5: add(0)", x.add(0), 1);
        C.due("5: add(55295)", x.add(55295), 2);
        C.due("5: add(57344)", x.add(57344), 3);
        C.due("5: add(1114111)", x.add(1114111), 4);
        for (int p : new int[] {-2, 55296, 56000, 57343, 1114112, Integer.MIN_VALUE, Integer.MAX_VALUE}) {
            C.due("5: add(" + p + ")", x.add(p), -2);
        }
        C.due("5: the row", Checks.row(x), 0, 55295, 57344, 1114111);
        C.due("5: add(-1)", x.add(-1), 0);
        C.due("5: the row is empty", x.point(0), -1);
        for (int i = 1; i <= 300; i++) {
            C.due("5: add to " + i, x.add(i), i);
        }
        C.due("5: add of a 301st", x.add(7), -4);
        C.due("5: add of none of the points before no room", x.add(-7), -2);
        C.due("5: the last is as it was", x.point(299), 300);
        C.due("5: add(-1) when full", x.add(-1), 0);
    }
}
