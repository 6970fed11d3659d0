/** Names of domains with all letters; the document's numbered promises say what each call answers. */
public final class WideNames {
    private static final int TEXT_LIMIT = 400;
    private static final int ROW_LIMIT = 300;

    private static final int NO_SUCH_THING = -1;
    private static final int OUT_OF_RANGE = -2;
    private static final int NO_ROOM = -4;
    private static final int FAULT_BASE = -10;

    private static final int EMPTY_THE_ROW = -1;
    private static final int KIND_APART = 0;
    private static final int KIND_ONE_FORM = 1;

    private final Row text;
    private final Row row;
    private final Row spare;
    private final Row otherSpare;
    private final Statuses statuses;
    private final Partings partings;
    private final Ranks ranks;
    private final Ranges ranges;
    private final Forms forms;
    private final Domain domain;

    public WideNames() {
        text = new Row(TEXT_LIMIT);
        row = new Row(ROW_LIMIT);
        spare = new Row(ROW_LIMIT);
        otherSpare = new Row(ROW_LIMIT);
        statuses = new Statuses();
        partings = new Partings();
        ranks = new Ranks();
        ranges = new Ranges();
        forms = new Forms(partings, ranks);
        domain = new Domain(statuses, forms, new LabelRules(statuses, ranks, ranges));
    }

    public int feed(long v, int n) {
        if (n < 0 || n > 8) {
            return OUT_OF_RANGE;
        }
        if (n == 0) {
            text.clear();
            return 0;
        }
        if (text.size() + n > TEXT_LIMIT) {
            return NO_ROOM;
        }
        for (int i = n - 1; i >= 0; i--) {
            text.append((int) ((v >>> (8 * i)) & 255));
        }
        return text.size();
    }

    public int read() {
        int outcome = Octets.takeIn(text, spare);
        if (outcome != Octets.WELL) {
            return refusalOfText(outcome);
        }
        row.become(spare);
        return row.size();
    }

    public int point(int i) {
        return i >= 0 && i < row.size() ? row.at(i) : NO_SUCH_THING;
    }

    public int add(int point) {
        if (point == EMPTY_THE_ROW) {
            row.clear();
            return 0;
        }
        if (!Octets.isPoint(point)) {
            return OUT_OF_RANGE;
        }
        return row.append(point) ? row.size() : NO_ROOM;
    }

    public int status(int first, int last, int status) {
        return statuses.tell(first, last, status);
    }

    public int map(int point) {
        return statuses.tellMapping(point, row);
    }

    public int parts(int point, int a, int b, boolean excluded) {
        return partings.tell(point, a, b, excluded);
    }

    public int rank(int point, int rank) {
        return ranks.tell(point, rank);
    }

    public int range(int kind, int first, int last, int v) {
        return ranges.tell(kind, first, last, v);
    }

    public int about(int point, int what) {
        if (!Octets.isPoint(point)) {
            return NO_SUCH_THING;
        }
        switch (what) {
            case 0:
                return statuses.of(point);
            case 1:
                return ranks.of(point);
            case 2:
                return ranges.of(Ranges.MARKS, point);
            case 3:
                return ranges.of(Ranges.DIRECTIONS, point);
            case 4:
                return ranges.of(Ranges.JOININGS, point);
            default:
                return OUT_OF_RANGE;
        }
    }

    public int form(int kind) {
        if (kind != KIND_APART && kind != KIND_ONE_FORM) {
            return OUT_OF_RANGE;
        }
        boolean fits = kind == KIND_APART ? forms.takeApart(row, spare) : forms.bringIntoForm(row, spare);
        if (!fits) {
            return NO_ROOM;
        }
        row.become(spare);
        return row.size();
    }

    public int inForm() {
        return forms.bringIntoForm(row, spare) && row.isLike(spare) ? 1 : 0;
    }

    public int alike() {
        int outcome = Octets.takeIn(text, spare);
        if (outcome != Octets.WELL) {
            return refusalOfText(outcome);
        }
        if (!forms.takeApart(spare, otherSpare) || !forms.takeApart(row, spare)) {
            return NO_ROOM;
        }
        return spare.isLike(otherSpare) ? 1 : 0;
    }

    public int encode() {
        spare.clear();
        if (Letters.fold(row, 0, row.size(), spare) != Letters.WELL) {
            return NO_ROOM;
        }
        row.become(spare);
        return row.size();
    }

    public int decode() {
        int place = Letters.unfold(row, 0, spare);
        if (place != Letters.WELL) {
            return FAULT_BASE - place;
        }
        row.become(spare);
        return row.size();
    }

    public int make(boolean plain) {
        return domain.build(text, plain) ? domain.madeSize() : FAULT_BASE - domain.told(0);
    }

    public int fault(int what) {
        return what >= 0 && what <= 3 ? domain.told(what) : OUT_OF_RANGE;
    }

    public int octet(int i) {
        return i >= 0 && i < domain.madeSize() ? domain.madeOctet(i) : NO_SUCH_THING;
    }

    private static int refusalOfText(int outcome) {
        return outcome == Octets.OVERFULL ? NO_ROOM : FAULT_BASE - outcome;
    }

    /** A row of numbers (points or octets) that never has more than its limit. */
    private static final class Row {
        private final int[] items;
        private int size;

        Row(int limit) {
            items = new int[limit];
            size = 0;
        }

        int size() {
            return size;
        }

        /** The item at a place; -1, which is no point and no octet, where there is none. */
        int at(int i) {
            return i >= 0 && i < size ? items[i] : -1;
        }

        void put(int i, int item) {
            if (i >= 0 && i < size) {
                items[i] = item;
            }
        }

        void clear() {
            size = 0;
        }

        /** Keeps the first items alone. */
        void cut(int newSize) {
            if (newSize >= 0 && newSize < size) {
                size = newSize;
            }
        }

        boolean append(int item) {
            if (size >= items.length) {
                return false;
            }
            items[size] = item;
            size++;
            return true;
        }

        boolean appendFrom(Row other, int first, int end) {
            for (int i = first; i < end; i++) {
                if (!append(other.at(i))) {
                    return false;
                }
            }
            return true;
        }

        boolean insert(int place, int item) {
            if (size >= items.length || place < 0 || place > size) {
                return false;
            }
            for (int i = size; i > place; i--) {
                items[i] = items[i - 1];
            }
            items[place] = item;
            size++;
            return true;
        }

        void become(Row other) {
            clear();
            appendFrom(other, 0, other.size());
        }

        /** The first place at which two rows differ, or where one of them ends; -1 if they are the same. */
        int firstDifference(Row other) {
            int shorter = Math.min(size, other.size());
            for (int i = 0; i < shorter; i++) {
                if (at(i) != other.at(i)) {
                    return i;
                }
            }
            return size == other.size() ? -1 : shorter;
        }

        boolean isLike(Row other) {
            return firstDifference(other) < 0;
        }
    }

    /** What points are, and which octets they have. */
    private static final class Octets {
        static final int WELL = -1;
        static final int OVERFULL = -2;
        static final int LAST_POINT = 1114111;

        private static final int FIRST_GAP = 55296;
        private static final int LAST_GAP = 57343;
        private static final int LOWEST_FOLLOWER = 128;
        private static final int HIGHEST_FOLLOWER = 191;

        static boolean isPoint(long value) {
            return value >= 0 && value <= LAST_POINT && (value < FIRST_GAP || value > LAST_GAP);
        }

        static boolean isSpan(int first, int last) {
            return first >= 0 && first <= last && last <= LAST_POINT;
        }

        /** READ: WELL, OVERFULL, or the place of the first fault. */
        static int takeIn(Row text, Row points) {
            points.clear();
            int value = 0;
            int missing = 0;
            int lowest = LOWEST_FOLLOWER;
            int highest = HIGHEST_FOLLOWER;
            for (int i = 0; i < text.size(); i++) {
                int octet = text.at(i);
                if (missing == 0) {
                    missing = followersOf(octet);
                    if (missing < 0) {
                        return i;
                    }
                    value = bitsOfFirst(octet, missing);
                    lowest = lowestSecond(octet);
                    highest = highestSecond(octet);
                } else {
                    if (octet < lowest || octet > highest) {
                        return i;
                    }
                    value = value * 64 + octet - LOWEST_FOLLOWER;
                    missing--;
                    lowest = LOWEST_FOLLOWER;
                    highest = HIGHEST_FOLLOWER;
                }
                if (missing == 0 && !points.append(value)) {
                    return OVERFULL;
                }
            }
            return missing == 0 ? WELL : text.size();
        }

        /** How many octets go on behind a first one; -1 if no point begins with it. */
        private static int followersOf(int octet) {
            if (octet < 128) {
                return 0;
            }
            // 192 and 193 would begin what is longer than need be, 245 and more what is above the points.
            if (octet < 194 || octet > 244) {
                return -1;
            }
            return octet < 224 ? 1 : octet < 240 ? 2 : 3;
        }

        private static int bitsOfFirst(int octet, int followers) {
            switch (followers) {
                case 1:
                    return octet - 192;
                case 2:
                    return octet - 224;
                case 3:
                    return octet - 240;
                default:
                    return octet;
            }
        }

        /** Below this a second octet would make what is longer than need be. */
        private static int lowestSecond(int first) {
            return first == 224 ? 160 : first == 240 ? 144 : LOWEST_FOLLOWER;
        }

        /** Above this a second octet would make 55296 .. 57343, or what is above the points. */
        private static int highestSecond(int first) {
            return first == 237 ? 159 : first == 244 ? 143 : HIGHEST_FOLLOWER;
        }

        static boolean putOut(int point, Row octets) {
            if (point < 128) {
                return octets.append(point);
            }
            if (point < 2048) {
                return octets.append(192 + point / 64) && putFollower(point, octets);
            }
            if (point < 65536) {
                return octets.append(224 + point / 4096) && putFollower(point / 64, octets)
                        && putFollower(point, octets);
            }
            return octets.append(240 + point / 262144) && putFollower(point / 4096, octets)
                    && putFollower(point / 64, octets) && putFollower(point, octets);
        }

        private static boolean putFollower(int bits, Row octets) {
            return octets.append(LOWEST_FOLLOWER + bits % 64);
        }
    }

    /** What may stand, what goes, and what becomes something else. */
    private static final class Statuses {
        static final int VALID = 0;
        static final int IGNORED = 1;
        static final int MAPPED = 2;
        static final int DISALLOWED = 3;

        private static final int TOLD_LIMIT = 200;
        private static final int MAPPING_LIMIT = 4;

        private final int[] firsts;
        private final int[] lasts;
        private final int[] values;
        private final int[] mappingSizes;
        private final int[] mappings;
        private int told;

        Statuses() {
            firsts = new int[TOLD_LIMIT];
            lasts = new int[TOLD_LIMIT];
            values = new int[TOLD_LIMIT];
            mappingSizes = new int[TOLD_LIMIT];
            mappings = new int[TOLD_LIMIT * MAPPING_LIMIT];
            told = 0;
        }

        int tell(int first, int last, int value) {
            if (!Octets.isSpan(first, last) || value != VALID && value != IGNORED && value != DISALLOWED) {
                return OUT_OF_RANGE;
            }
            return keep(first, last, value) ? 1 : NO_ROOM;
        }

        int tellMapping(int point, Row to) {
            if (!Octets.isPoint(point) || to.size() < 1 || to.size() > MAPPING_LIMIT) {
                return OUT_OF_RANGE;
            }
            if (!keep(point, point, MAPPED)) {
                return NO_ROOM;
            }
            int latest = told - 1;
            mappingSizes[latest] = to.size();
            for (int i = 0; i < to.size(); i++) {
                mappings[latest * MAPPING_LIMIT + i] = to.at(i);
            }
            return 1;
        }

        private boolean keep(int first, int last, int value) {
            if (told >= TOLD_LIMIT) {
                return false;
            }
            firsts[told] = first;
            lasts[told] = last;
            values[told] = value;
            told++;
            return true;
        }

        int of(int point) {
            int latest = latestAbout(point);
            return latest >= 0 ? values[latest] : atFirst(point);
        }

        /** What was told last of a point, or -1. */
        private int latestAbout(int point) {
            for (int i = told - 1; i >= 0; i--) {
                if (firsts[i] <= point && point <= lasts[i]) {
                    return i;
                }
            }
            return -1;
        }

        private static int atFirst(int point) {
            if (point >= 128 || point >= 'a' && point <= 'z' || point >= '0' && point <= '9') {
                return VALID;
            }
            if (point == '-' || point == '.') {
                return VALID;
            }
            return point >= 'A' && point <= 'Z' ? MAPPED : DISALLOWED;
        }

        /** Whether there was room for what a point that is MAPPED becomes. */
        boolean appendMapped(int point, Row to) {
            int latest = latestAbout(point);
            if (latest < 0) {
                return to.append(point - 'A' + 'a');
            }
            for (int i = 0; i < mappingSizes[latest]; i++) {
                if (!to.append(mappings[latest * MAPPING_LIMIT + i])) {
                    return false;
                }
            }
            return true;
        }
    }

    /** Marks, directions and joinings, told for ranges of points. */
    private static final class Ranges {
        static final int MARKS = 0;
        static final int DIRECTIONS = 1;
        static final int JOININGS = 2;

        static final int LEFT_TO_RIGHT = 0;
        static final int EUROPEAN_NUMBER = 4;
        static final int EUROPEAN_SEPARATOR = 5;
        static final int LAST_DIRECTION = 10;

        private static final int TOLD_LIMIT = 200;

        private final int[] kinds;
        private final int[] firsts;
        private final int[] lasts;
        private final int[] values;
        private int told;

        Ranges() {
            kinds = new int[TOLD_LIMIT];
            firsts = new int[TOLD_LIMIT];
            lasts = new int[TOLD_LIMIT];
            values = new int[TOLD_LIMIT];
            told = 0;
        }

        int tell(int kind, int first, int last, int value) {
            if (value < 0 || value > highestOf(kind) || !Octets.isSpan(first, last)) {
                return OUT_OF_RANGE;
            }
            if (told >= TOLD_LIMIT) {
                return NO_ROOM;
            }
            kinds[told] = kind;
            firsts[told] = first;
            lasts[told] = last;
            values[told] = value;
            told++;
            return 1;
        }

        /** The highest value of a kind; -1, so that no value fits, for no such kind. */
        private static int highestOf(int kind) {
            switch (kind) {
                case MARKS:
                    return 1;
                case DIRECTIONS:
                    return LAST_DIRECTION;
                case JOININGS:
                    return 4;
                default:
                    return -1;
            }
        }

        int of(int kind, int point) {
            for (int i = told - 1; i >= 0; i--) {
                if (kinds[i] == kind && firsts[i] <= point && point <= lasts[i]) {
                    return values[i];
                }
            }
            return kind == DIRECTIONS ? directionAtFirst(point) : 0;
        }

        private static int directionAtFirst(int point) {
            if (point >= '0' && point <= '9') {
                return EUROPEAN_NUMBER;
            }
            return point == '-' ? EUROPEAN_SEPARATOR : LEFT_TO_RIGHT;
        }
    }

    /** The ranks of points. */
    private static final class Ranks {
        private static final int TOLD_LIMIT = 100;
        private static final int HIGHEST = 254;

        private final int[] points;
        private final int[] values;
        private int told;

        Ranks() {
            points = new int[TOLD_LIMIT];
            values = new int[TOLD_LIMIT];
            told = 0;
        }

        int tell(int point, int value) {
            if (!Octets.isPoint(point) || point < 128 || value < 0 || value > HIGHEST) {
                return OUT_OF_RANGE;
            }
            int at = find(point);
            if (at >= 0) {
                int before = values[at];
                values[at] = value;
                return before;
            }
            if (told >= TOLD_LIMIT) {
                return NO_ROOM;
            }
            points[told] = point;
            values[told] = value;
            told++;
            return 0;
        }

        int of(int point) {
            int at = find(point);
            return at >= 0 ? values[at] : 0;
        }

        /** The ranks of a row of points, in its order. */
        void takeAll(Row of, Row to) {
            to.clear();
            for (int i = 0; i < of.size(); i++) {
                int at = find(of.at(i));
                to.append(at >= 0 ? values[at] : 0);
            }
        }

        private int find(int point) {
            if (point < 128) {
                return -1;
            }
            for (int i = 0; i < told; i++) {
                if (points[i] == point) {
                    return i;
                }
            }
            return -1;
        }
    }

    /** How points come apart and together, syllables too. */
    private static final class Partings {
        static final int NONE = -1;

        private static final int WRONG_STATE = -3;
        private static final int TOLD_LIMIT = 100;

        private static final int FIRST_SYLLABLE = 44032;
        private static final int LAST_SYLLABLE = 55203;
        private static final int FIRST_LEAD = 4352;
        private static final int LAST_LEAD = 4370;
        private static final int FIRST_VOWEL = 4449;
        private static final int LAST_VOWEL = 4469;
        private static final int BEFORE_TAILS = 4519;
        private static final int LAST_TAIL = 4546;
        private static final int PER_LEAD = 588;
        private static final int PER_VOWEL = 28;

        private final int[] points;
        private final int[] earlier;
        private final int[] later;
        private final boolean[] excluded;
        private int told;

        Partings() {
            points = new int[TOLD_LIMIT];
            earlier = new int[TOLD_LIMIT];
            later = new int[TOLD_LIMIT];
            excluded = new boolean[TOLD_LIMIT];
            told = 0;
        }

        int tell(int point, int a, int b, boolean isExcluded) {
            if (!Octets.isPoint(point) || !mayBePart(a, point) || !mayBePart(b, point)) {
                return OUT_OF_RANGE;
            }
            if (a == 0 || point < 128 || isOfSyllables(point)) {
                return OUT_OF_RANGE;
            }
            if (find(point) >= 0 || b != 0 && !isExcluded && findPair(a, b) >= 0) {
                return WRONG_STATE;
            }
            if (told >= TOLD_LIMIT) {
                return NO_ROOM;
            }
            points[told] = point;
            earlier[told] = a;
            later[told] = b;
            excluded[told] = isExcluded;
            told++;
            return told;
        }

        private static boolean mayBePart(int part, int point) {
            return Octets.isPoint(part) && part < point && !isOfSyllables(part);
        }

        private static boolean isOfSyllables(int point) {
            return isSyllable(point) || isLead(point) || isVowel(point) || isTail(point);
        }

        static boolean isSyllable(int point) {
            return point >= FIRST_SYLLABLE && point <= LAST_SYLLABLE;
        }

        private static boolean isLead(int point) {
            return point >= FIRST_LEAD && point <= LAST_LEAD;
        }

        private static boolean isVowel(int point) {
            return point >= FIRST_VOWEL && point <= LAST_VOWEL;
        }

        private static boolean isTail(int point) {
            return point > BEFORE_TAILS && point <= LAST_TAIL;
        }

        /** Where the parts of a point are kept, or -1. */
        int find(int point) {
            if (point < 128) {
                return -1;
            }
            for (int i = 0; i < told; i++) {
                if (points[i] == point) {
                    return i;
                }
            }
            return -1;
        }

        int earlierAt(int i) {
            return i >= 0 && i < told ? earlier[i] : 0;
        }

        /** The second part, 0 if there is none. */
        int laterAt(int i) {
            return i >= 0 && i < told ? later[i] : 0;
        }

        private int findPair(int a, int b) {
            for (int i = 0; i < told; i++) {
                if (earlier[i] == a && later[i] == b && !excluded[i]) {
                    return i;
                }
            }
            return -1;
        }

        static int leadOf(int syllable) {
            return FIRST_LEAD + (syllable - FIRST_SYLLABLE) / PER_LEAD;
        }

        static int vowelOf(int syllable) {
            return FIRST_VOWEL + (syllable - FIRST_SYLLABLE) % PER_LEAD / PER_VOWEL;
        }

        /** The third part of a syllable, 0 if it has none. */
        static int tailOf(int syllable) {
            int tail = (syllable - FIRST_SYLLABLE) % PER_VOWEL;
            return tail == 0 ? 0 : BEFORE_TAILS + tail;
        }

        /** What two points come TOGETHER into, or NONE. */
        int together(int a, int b) {
            if (isLead(a) && isVowel(b)) {
                return FIRST_SYLLABLE + (a - FIRST_LEAD) * PER_LEAD + (b - FIRST_VOWEL) * PER_VOWEL;
            }
            if (isSyllable(a) && (a - FIRST_SYLLABLE) % PER_VOWEL == 0 && isTail(b)) {
                return a + b - BEFORE_TAILS;
            }
            // A second part 0 says that there is none, so no pair has it.
            int at = b == 0 ? -1 : findPair(a, b);
            return at >= 0 ? points[at] : NONE;
        }
    }

    /** APART, and ONE FORM. */
    private static final class Forms {
        // Each part is less than its point, and 100 points have parts: no more than 101 wait at once.
        private static final int PENDING_LIMIT = 128;
        private static final int STEP_LIMIT = 1000000;

        private final Partings partings;
        private final Ranks ranks;
        private final int[] pending;
        // The ranks of the row that is being formed, in its order.
        private final Row besides;

        Forms(Partings partings, Ranks ranks) {
            this.partings = partings;
            this.ranks = ranks;
            pending = new int[PENDING_LIMIT];
            besides = new Row(ROW_LIMIT);
        }

        /** APART: false if it would be too long. */
        boolean takeApart(Row from, Row to) {
            to.clear();
            for (int i = 0; i < from.size(); i++) {
                int point = from.at(i);
                if (!(Partings.isSyllable(point) ? appendSyllable(point, to) : appendParts(point, to))) {
                    return false;
                }
            }
            ranks.takeAll(to, besides);
            sortByRanks(to);
            return true;
        }

        private static boolean appendSyllable(int syllable, Row to) {
            int tail = Partings.tailOf(syllable);
            return to.append(Partings.leadOf(syllable)) && to.append(Partings.vowelOf(syllable))
                    && (tail == 0 || to.append(tail));
        }

        /** Syllables are parts of nothing, so none comes up here. */
        private boolean appendParts(int point, Row to) {
            int waiting = 1;
            pending[0] = point;
            for (int step = 0; waiting > 0 && step < STEP_LIMIT; step++) {
                waiting--;
                int next = pending[waiting];
                int at = partings.find(next);
                if (at < 0) {
                    if (!to.append(next)) {
                        return false;
                    }
                } else {
                    if (waiting + 2 > PENDING_LIMIT) {
                        return false;
                    }
                    if (partings.laterAt(at) != 0) {
                        pending[waiting] = partings.laterAt(at);
                        waiting++;
                    }
                    pending[waiting] = partings.earlierAt(at);
                    waiting++;
                }
            }
            return waiting == 0;
        }

        /** A point goes before all neighbours of a higher rank; one of rank 0 neither moves nor is passed. */
        private void sortByRanks(Row points) {
            for (int i = 1; i < points.size(); i++) {
                int point = points.at(i);
                int rank = besides.at(i);
                int place = i;
                while (rank > 0 && place > 0 && besides.at(place - 1) > rank) {
                    points.put(place, points.at(place - 1));
                    besides.put(place, besides.at(place - 1));
                    place--;
                }
                points.put(place, point);
                besides.put(place, rank);
            }
        }

        /** ONE FORM: false if its APART would be too long. */
        boolean bringIntoForm(Row from, Row to) {
            if (!takeApart(from, to)) {
                return false;
            }
            int beginner = -1;
            int kept = 0;
            for (int i = 0; i < to.size(); i++) {
                int point = to.at(i);
                int rank = besides.at(i);
                int whole = Partings.NONE;
                if (beginner >= 0 && reaches(beginner, kept, rank)) {
                    whole = partings.together(to.at(beginner), point);
                }
                if (whole != Partings.NONE) {
                    to.put(beginner, whole);
                } else {
                    if (rank == 0) {
                        beginner = kept;
                    }
                    to.put(kept, point);
                    besides.put(kept, rank);
                    kept++;
                }
            }
            to.cut(kept);
            return true;
        }

        /** Whether what stands between the beginner and the next point lets both come together. */
        private boolean reaches(int beginner, int kept, int rank) {
            int before = besides.at(kept - 1);
            return beginner == kept - 1 || before > 0 && before < rank;
        }
    }

    /** Rows written with few letters, and read again. */
    private static final class Letters {
        static final int WELL = -1;
        static final int FULL = -2;
        static final int TOO_LONG = -3;

        private static final int BASE = 36;
        private static final int FIRST_BIAS = 72;
        private static final int FIRST_WIDE = 128;
        private static final int DASH = '-';
        private static final long HIGHEST = 2147483647L;
        // More digits than a number up to HIGHEST can have.
        private static final int DIGITS_LIMIT = 40;
        private static final int HALVINGS_LIMIT = 40;

        /** Writes the points of a row from first to before end, ENCODED, behind another row. */
        static int fold(Row from, int first, int end, Row to) {
            int below = 0;
            for (int i = first; i < end; i++) {
                if (from.at(i) < FIRST_WIDE) {
                    below++;
                    if (!to.append(from.at(i))) {
                        return TOO_LONG;
                    }
                }
            }
            if (below > 0 && !to.append(DASH)) {
                return TOO_LONG;
            }
            return foldWide(from, first, end, below, to);
        }

        private static int foldWide(Row from, int first, int end, int below, Row to) {
            int n = FIRST_WIDE;
            long delta = 0;
            int bias = FIRST_BIAS;
            int written = below;
            for (int round = first; round < end && written < end - first; round++) {
                int least = leastFrom(from, first, end, n);
                delta += (long) (least - n) * (written + 1);
                n = least;
                if (delta > HIGHEST) {
                    return FULL;
                }
                for (int i = first; i < end; i++) {
                    if (from.at(i) < n) {
                        delta++;
                        if (delta > HIGHEST) {
                            return FULL;
                        }
                    }
                    if (from.at(i) == n) {
                        if (!appendNumber(delta, bias, to)) {
                            return TOO_LONG;
                        }
                        bias = adapted(delta, written + 1, written == below);
                        delta = 0;
                        written++;
                    }
                }
                delta++;
                n++;
            }
            return WELL;
        }

        private static int leastFrom(Row from, int first, int end, int bound) {
            int least = Octets.LAST_POINT;
            for (int i = first; i < end; i++) {
                if (from.at(i) >= bound && from.at(i) < least) {
                    least = from.at(i);
                }
            }
            return least;
        }

        private static boolean appendNumber(long number, int bias, Row to) {
            long rest = number;
            for (int i = 1; i <= DIGITS_LIMIT; i++) {
                int t = threshold(BASE * i, bias);
                if (rest < t) {
                    return to.append(digitOf((int) rest));
                }
                if (!to.append(digitOf((int) (t + (rest - t) % (BASE - t))))) {
                    return false;
                }
                rest = (rest - t) / (BASE - t);
            }
            return false;
        }

        private static int threshold(int k, int bias) {
            return k - bias < 1 ? 1 : k - bias > 26 ? 26 : k - bias;
        }

        private static int adapted(long delta, int points, boolean firstTime) {
            long rest = firstTime ? delta / 700 : delta / 2;
            rest += rest / points;
            int k = 0;
            for (int i = 0; rest > 455 && i < HALVINGS_LIMIT; i++) {
                rest /= 35;
                k += BASE;
            }
            return k + (int) (BASE * rest / (rest + 38));
        }

        private static int digitOf(int value) {
            return value < 26 ? 'a' + value : '0' + value - 26;
        }

        private static int valueOf(int digit) {
            if (digit >= 'a' && digit <= 'z') {
                return digit - 'a';
            }
            if (digit >= 'A' && digit <= 'Z') {
                return digit - 'A';
            }
            return digit >= '0' && digit <= '9' ? digit - '0' + 26 : -1;
        }

        /** DECODED is what stands from first on: WELL, or the place of the fault, counted from there. */
        static int unfold(Row from, int first, Row to) {
            int dash = first;
            for (int i = first; i < from.size(); i++) {
                if (from.at(i) >= FIRST_WIDE) {
                    return i - first;
                }
                if (from.at(i) == DASH) {
                    dash = i;
                }
            }
            to.clear();
            to.appendFrom(from, first, dash);
            int place = unfoldDigits(from, dash > first ? dash + 1 : first, to);
            return place == WELL ? WELL : place - first;
        }

        private static int unfoldDigits(Row from, int first, Row to) {
            long n = FIRST_WIDE;
            long i = 0;
            long old = 0;
            long w = 1;
            int k = BASE;
            int bias = FIRST_BIAS;
            for (int at = first; at < from.size(); at++) {
                int digit = valueOf(from.at(at));
                if (digit < 0) {
                    return at;
                }
                i += digit * w;
                int t = threshold(k, bias);
                boolean goesOn = digit >= t;
                w = goesOn ? w * (BASE - t) : 1;
                k = goesOn ? k + BASE : BASE;
                if (i > HIGHEST || w > HIGHEST) {
                    return at;
                }
                if (!goesOn) {
                    int length = to.size() + 1;
                    bias = adapted(i - old, length, old == 0);
                    n += i / length;
                    i %= length;
                    if (!Octets.isPoint(n) || !to.insert((int) i, (int) n)) {
                        return at;
                    }
                    i++;
                    old = i;
                }
            }
            return k == BASE ? WELL : from.size();
        }
    }

    /** The labels of a domain, one behind the other. */
    private static final class Labels {
        private final Row points;
        private final int[] ends;
        private int count;

        Labels() {
            points = new Row(ROW_LIMIT);
            // A row of dots alone has one label more than dots.
            ends = new int[ROW_LIMIT + 1];
            count = 0;
        }

        void clear() {
            points.clear();
            count = 0;
        }

        void append(Row label) {
            if (count < ends.length && points.appendFrom(label, 0, label.size())) {
                ends[count] = points.size();
                count++;
            }
        }

        int count() {
            return count;
        }

        Row points() {
            return points;
        }

        int start(int k) {
            return k > 0 && k <= count ? ends[k - 1] : 0;
        }

        int end(int k) {
            return k >= 0 && k < count ? ends[k] : points.size();
        }

        boolean isEmpty(int k) {
            return start(k) == end(k);
        }

        boolean isWide(int k) {
            return hasWide(points, start(k), end(k));
        }

        /** Whether a point above 127 stands from first to before end. */
        static boolean hasWide(Row row, int first, int end) {
            for (int i = first; i < end; i++) {
                if (row.at(i) > 127) {
                    return true;
                }
            }
            return false;
        }
    }

    /** What is asked of the points of one label. */
    private static final class LabelRules {
        static final int WELL = 0;
        static final int DASHES = 41;
        static final int DASH_AT_AN_END = 42;
        static final int MARK_FIRST = 43;
        static final int NOT_VALID = 44;
        static final int JOINER = 45;

        private static final int DASH = '-';
        private static final int DOT = '.';
        private static final int NON_JOINER_POINT = 8204;
        private static final int JOINER_POINT = 8205;
        private static final int RANK_BEFORE_JOINERS = 9;
        private static final int JOINS_LEFT = 1;
        private static final int JOINS_RIGHT = 2;
        private static final int JOINS_BOTH = 3;
        private static final int JOINS_THROUGH = 4;

        // Sets of directions: 1 << direction for each one in it.
        private static final int L = 1;
        private static final int R = 2;
        private static final int AL = 4;
        private static final int AN = 8;
        private static final int EN = 16;
        private static final int NSM = 1024;
        private static final int ES_CS_ET_ON_BN = 32 + 64 + 128 + 256 + 512;

        private final Statuses statuses;
        private final Ranks ranks;
        private final Ranges ranges;
        private final Row joinings;
        private final Row directions;
        private int place;

        LabelRules(Statuses statuses, Ranks ranks, Ranges ranges) {
            this.statuses = statuses;
            this.ranks = ranks;
            this.ranges = ranges;
            joinings = new Row(ROW_LIMIT);
            directions = new Row(ROW_LIMIT);
            place = 0;
        }

        /** The place of the fault that was found last. */
        int place() {
            return place;
        }

        /** The first fault, by 41 to 45, of a label that is not empty, or WELL. */
        int look(Row label) {
            int last = label.size() - 1;
            if (label.at(2) == DASH && label.at(3) == DASH) {
                return found(DASHES, 2);
            }
            if (label.at(0) == DASH) {
                return found(DASH_AT_AN_END, 0);
            }
            if (label.at(last) == DASH) {
                return found(DASH_AT_AN_END, last);
            }
            if (ranges.of(Ranges.MARKS, label.at(0)) == 1) {
                return found(MARK_FIRST, 0);
            }
            for (int i = 0; i <= last; i++) {
                if (label.at(i) == DOT || statuses.of(label.at(i)) != Statuses.VALID) {
                    return found(NOT_VALID, i);
                }
            }
            return lookAtJoiners(label);
        }

        private int found(int fault, int where) {
            place = where;
            return fault;
        }

        private int lookAtJoiners(Row label) {
            joinings.clear();
            for (int i = 0; i < label.size(); i++) {
                int point = label.at(i);
                boolean asks = point == NON_JOINER_POINT || point == JOINER_POINT;
                if (asks && ranks.of(label.at(i - 1)) != RANK_BEFORE_JOINERS) {
                    // Looked up when they are asked for, and once: most labels have no such point.
                    for (int k = joinings.size(); k < label.size(); k++) {
                        joinings.append(ranges.of(Ranges.JOININGS, label.at(k)));
                    }
                    if (point == JOINER_POINT || !standsBetweenJoining(i)) {
                        return found(JOINER, i);
                    }
                }
            }
            return WELL;
        }

        private boolean standsBetweenJoining(int i) {
            int before = i - 1;
            while (before >= 0 && joinings.at(before) == JOINS_THROUGH) {
                before--;
            }
            int behind = i + 1;
            while (behind < joinings.size() && joinings.at(behind) == JOINS_THROUGH) {
                behind++;
            }
            return joins(joinings.at(before), JOINS_LEFT) && joins(joinings.at(behind), JOINS_RIGHT);
        }

        private static boolean joins(int joining, int side) {
            return joining == side || joining == JOINS_BOTH;
        }

        /** Whether some point of a domain is R, AL or AN; keeps the directions of all its points. */
        boolean goesRight(Row points) {
            directions.clear();
            boolean any = false;
            for (int i = 0; i < points.size(); i++) {
                int direction = ranges.of(Ranges.DIRECTIONS, points.at(i));
                directions.append(direction);
                any = any || isOf(direction, R | AL | AN);
            }
            return any;
        }

        private static boolean isOf(int direction, int set) {
            return direction >= 0 && (set >> direction & 1) == 1;
        }

        /** The place in a label, not empty, of its fault by 46, or -1; goesRight() was asked before. */
        int placeOfWrongDirection(int start, int end) {
            int first = directions.at(start);
            if (!isOf(first, L | R | AL)) {
                return 0;
            }
            boolean right = isOf(first, R | AL);
            int allowed = EN | ES_CS_ET_ON_BN | NSM | (right ? R | AL | AN : L);
            for (int i = start; i < end; i++) {
                if (!isOf(directions.at(i), allowed)) {
                    return i - start;
                }
            }
            int last = end - 1;
            while (last > start && isOf(directions.at(last), NSM)) {
                last--;
            }
            if (!isOf(directions.at(last), right ? R | AL | AN | EN : L | EN)) {
                return last - start;
            }
            return right ? placeOfOtherNumber(start, end) : -1;
        }

        /** The place of the first EN or AN that is not what the first of these is, or -1. */
        private int placeOfOtherNumber(int start, int end) {
            int number = -1;
            for (int i = start; i < end; i++) {
                int direction = directions.at(i);
                if (isOf(direction, EN | AN)) {
                    if (number >= 0 && direction != number) {
                        return i - start;
                    }
                    number = direction;
                }
            }
            return -1;
        }
    }

    /** A domain MADE out of a text, and the first fault on the way. */
    private static final class Domain {
        private static final int OF_READ = 10;
        private static final int OF_MAP = 20;
        private static final int OF_DECODE = 30;
        private static final int NOTHING_WIDE = 32;
        private static final int NOT_IN_FORM = 40;
        private static final int DIRECTION = 46;
        private static final int ENCODE_FULL = 50;
        private static final int EMPTY_LABEL = 51;
        private static final int LONG_LABEL = 52;
        private static final int LONG_DOMAIN = 53;
        private static final int TOO_LONG = 60;

        private static final int DOT = '.';
        private static final int PREFIX_SIZE = 4;
        private static final int LABEL_LIMIT = 63;
        private static final int DOMAIN_LIMIT = 253;
        private static final int OCTETS_LIMIT = 4 * ROW_LIMIT;

        private final Statuses statuses;
        private final Forms forms;
        private final LabelRules rules;
        private final Row points;
        private final Row spare;
        private final Row label;
        private final Labels labels;
        private final int[] plainSizes;
        private final Row draft;
        private final Row made;
        private int fault;
        private int faultLabel;
        private int faultPlace;

        Domain(Statuses statuses, Forms forms, LabelRules rules) {
            this.statuses = statuses;
            this.forms = forms;
            this.rules = rules;
            points = new Row(ROW_LIMIT);
            spare = new Row(ROW_LIMIT);
            label = new Row(ROW_LIMIT);
            labels = new Labels();
            plainSizes = new int[ROW_LIMIT + 1];
            draft = new Row(OCTETS_LIMIT);
            made = new Row(OCTETS_LIMIT);
            fault = 0;
            faultLabel = 0;
            faultPlace = 0;
        }

        int madeSize() {
            return made.size();
        }

        int madeOctet(int i) {
            return made.at(i);
        }

        int told(int what) {
            switch (what) {
                case 0:
                    return fault;
                case 1:
                    return faultLabel;
                case 2:
                    return faultPlace;
                default:
                    // A label is kept when it was looked at whole.
                    return labels.count();
            }
        }

        /** Whether the domain was made; if not, what was made before stays. */
        boolean build(Row text, boolean plain) {
            fault = 0;
            faultLabel = 0;
            faultPlace = 0;
            labels.clear();
            draft.clear();
            boolean well = takeText(text) && replaceAll() && formAll() && lookAtLabels() && lookAtDirections();
            if (well && (plain ? writePlain() : writeWide())) {
                made.become(draft);
                return true;
            }
            return false;
        }

        /** Keeps a fault; always false, so that it can end a chain of steps. */
        private boolean fail(int code, int inLabel, int place) {
            fault = code;
            faultLabel = inLabel;
            faultPlace = place;
            return false;
        }

        private boolean takeText(Row text) {
            int outcome = Octets.takeIn(text, points);
            if (outcome == Octets.OVERFULL) {
                return fail(TOO_LONG, 0, ROW_LIMIT);
            }
            return outcome == Octets.WELL || fail(OF_READ, 0, outcome);
        }

        private boolean replaceAll() {
            spare.clear();
            for (int i = 0; i < points.size(); i++) {
                int point = points.at(i);
                int status = statuses.of(point);
                if (status == Statuses.DISALLOWED) {
                    return fail(OF_MAP, 0, i);
                }
                boolean fits = true;
                if (status == Statuses.VALID) {
                    fits = spare.append(point);
                } else if (status == Statuses.MAPPED) {
                    fits = statuses.appendMapped(point, spare);
                }
                if (!fits) {
                    return fail(TOO_LONG, 0, i);
                }
            }
            return true;
        }

        private boolean formAll() {
            return forms.bringIntoForm(spare, points) || fail(TOO_LONG, 0, 0);
        }

        private boolean lookAtLabels() {
            int start = 0;
            for (int i = 0; i <= points.size(); i++) {
                if (i == points.size() || points.at(i) == DOT) {
                    label.clear();
                    label.appendFrom(points, start, i);
                    if (label.size() > 0 && !(unfoldLabel() && followsRules())) {
                        return false;
                    }
                    labels.append(label);
                    start = i + 1;
                }
            }
            return true;
        }

        private boolean followsRules() {
            int found = rules.look(label);
            return found == LabelRules.WELL || fail(found, labels.count(), rules.place());
        }

        private boolean hasPrefix() {
            return label.at(0) == 'x' && label.at(1) == 'n' && label.at(2) == '-' && label.at(3) == '-';
        }

        /** A label with the prefix stands for what is decoded of it from here on. */
        private boolean unfoldLabel() {
            if (!hasPrefix()) {
                return true;
            }
            int which = labels.count();
            int place = Letters.unfold(label, PREFIX_SIZE, spare);
            if (place != Letters.WELL) {
                return fail(OF_DECODE, which, PREFIX_SIZE + place);
            }
            if (!Labels.hasWide(spare, 0, spare.size())) {
                return fail(NOTHING_WIDE, which, 0);
            }
            label.become(spare);
            if (!forms.bringIntoForm(label, spare)) {
                return fail(TOO_LONG, which, 0);
            }
            int differs = label.firstDifference(spare);
            return differs < 0 || fail(NOT_IN_FORM, which, differs);
        }

        private boolean lookAtDirections() {
            if (!rules.goesRight(labels.points())) {
                return true;
            }
            for (int k = 0; k < labels.count(); k++) {
                if (!labels.isEmpty(k)) {
                    int place = rules.placeOfWrongDirection(labels.start(k), labels.end(k));
                    if (place >= 0) {
                        return fail(DIRECTION, k, place);
                    }
                }
            }
            return true;
        }

        private boolean writeWide() {
            for (int k = 0; k < labels.count(); k++) {
                if (k > 0) {
                    draft.append(DOT);
                }
                for (int i = labels.start(k); i < labels.end(k); i++) {
                    Octets.putOut(labels.points().at(i), draft);
                }
            }
            return true;
        }

        private boolean writePlain() {
            for (int k = 0; k < labels.count(); k++) {
                if (!takePlainLabel(k)) {
                    return fail(ENCODE_FULL, k, 0);
                }
                if (k > 0) {
                    draft.append(DOT);
                }
                // What the draft has no room for is refused as too long by its size.
                draft.appendFrom(spare, 0, spare.size());
                plainSizes[k] = spare.size();
            }
            return lookAtPlainSizes();
        }

        /** Puts a label as it stands in the plain domain into spare; false if encoding it is FULL. */
        private boolean takePlainLabel(int k) {
            spare.clear();
            if (!labels.isWide(k)) {
                spare.appendFrom(labels.points(), labels.start(k), labels.end(k));
                return true;
            }
            spare.append('x');
            spare.append('n');
            spare.append('-');
            spare.append('-');
            // One cut off at the limit of a row is still longer than a label may be.
            return Letters.fold(labels.points(), labels.start(k), labels.end(k), spare) != Letters.FULL;
        }

        private boolean lookAtPlainSizes() {
            int last = labels.count() - 1;
            int sum = last;
            for (int k = 0; k <= last; k++) {
                if (plainSizes[k] == 0 && (k < last || last == 0)) {
                    return fail(EMPTY_LABEL, k, 0);
                }
                sum += plainSizes[k];
            }
            for (int k = 0; k <= last; k++) {
                if (plainSizes[k] > LABEL_LIMIT) {
                    return fail(LONG_LABEL, k, LABEL_LIMIT);
                }
            }
            if (last > 0 && plainSizes[last] == 0) {
                sum--;
            }
            return sum > 0 && sum <= DOMAIN_LIMIT || fail(LONG_DOMAIN, last, 0);
        }
    }
}
