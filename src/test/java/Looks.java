import java.util.ArrayList;
import java.util.Arrays;
import java.util.List;
import java.util.function.IntSupplier;

/** All that can be asked of an object, in looks: a look changes what it looks at, so each has an object of its own. */
final class Looks {
    /** The last look asks for faults. */
    static final int COUNT = 8;
    private static final int[] ALWAYS = {'a', 'A', '5', '-', '!', 200, 201, 768, 44033};

    private final Names x;
    private final int most;
    private final int[] points;
    private final List<Integer> answers = new ArrayList<>();

    /** For looks at an object by so many calls at most, and at some points beside those of always. */
    Looks(Names x, int most, int... points) {
        this.x = x;
        this.most = most;
        this.points = Checks.join(Arrays.stream(points).filter(Model::isPoint).toArray(), ALWAYS);
    }

    int[] at(int look) {
        switch (look) {
            case 0 -> row();
            case 1 -> text();
            case 2 -> tables();
            case 3 -> room();
            case 4 -> forms();
            case 5 -> mappings();
            case 6 -> octets(300);
            default -> domain();
        }
        return answers.stream().mapToInt(i -> i).toArray();
    }

    private void ask(IntSupplier call) {
        if (answers.size() < most) {
            answers.add(call.getAsInt());
        }
    }

    private void row() {
        for (int i = 0; i <= 300; i++) {
            int place = i;
            ask(() -> x.point(place));
        }
    }

    private void text() {
        ask(x::alike);
        ask(x::read);
        ask(() -> x.feed(0, 1));
        row();
    }

    private void tables() {
        for (int p : points) {
            for (int what = 0; what < 5; what++) {
                int asked = what;
                ask(() -> x.about(p, asked));
            }
        }
    }

    /** What is told next tells how much was told. */
    private void room() {
        ask(() -> x.status(5, 5, 1));
        ask(() -> x.range(0, 5, 5, 1));
        ask(() -> x.rank(99999, 1));
        ask(() -> x.parts(99999, 99997, 99998, false));
    }

    private void rowOfPoints() {
        ask(() -> x.add(-1));
        for (int p : points) {
            ask(() -> x.add(p));
        }
    }

    private void forms() {
        for (int kind = 0; kind < 2; kind++) {
            int asked = kind;
            rowOfPoints();
            ask(() -> x.form(asked));
            for (int i = 0; i < 3 * points.length; i++) {
                int place = i;
                ask(() -> x.point(place));
            }
        }
    }

    private void faults() {
        for (int what = 0; what < 4; what++) {
            int asked = what;
            ask(() -> x.fault(asked));
        }
    }

    private void octets(int count) {
        for (int i = 0; i < count; i++) {
            int place = i;
            ask(() -> x.octet(place));
        }
    }

    private void domain() {
        faults();
        ask(() -> x.make(true));
        faults();
        octets(260);
    }

    /** What each point becomes in a domain. */
    private void mappings() {
        for (int p : points) {
            ask(() -> x.feed(0, 0));
            for (int octet : Checks.octets(Checks.of(p))) {
                ask(() -> x.feed(octet, 1));
            }
            ask(() -> x.make(false));
            faults();
            octets(20);
        }
    }
}
