import java.util.ArrayList;
import java.util.List;
import java.util.function.Consumer;

/** Calls that are made anew on each object that is asked for, so that no object is asked too much. */
final class Told {
    private final List<Consumer<Names>> calls = new ArrayList<>();

    Names fresh() {
        Names x = new Names();
        for (Consumer<Names> call : calls) {
            call.accept(x);
        }
        return x;
    }

    Told then(Consumer<Names> call) {
        calls.add(call);
        return this;
    }

    /** All that was told so far, and room for more that the other one does not get. */
    Told copy() {
        Told copy = new Told();
        copy.calls.addAll(calls);
        return copy;
    }

    Told status(int first, int last, int status) {
        return then(x -> x.status(first, last, status));
    }

    /** A point is MAPPED; the row at hand is empty then. */
    Told map(int point, int... to) {
        return then(x -> {
            Checks.row(x, to);
            x.map(point);
            x.add(-1);
        });
    }

    Told map(int point, String to) {
        return map(point, Checks.points(to));
    }

    Told parts(int point, int a, int b, boolean excluded) {
        return then(x -> x.parts(point, a, b, excluded));
    }

    Told rank(int point, int rank) {
        return then(x -> x.rank(point, rank));
    }

    Told range(int kind, int first, int last, int v) {
        return then(x -> x.range(kind, first, last, v));
    }

    Told row(int... points) {
        return then(x -> Checks.row(x, points));
    }

    /** The row at hand is one point below 128 again and again; few calls. */
    Told rowOf(int count, int point) {
        return text(Checks.many(count, point)).then(Names::read);
    }

    Told text(int... octets) {
        return then(x -> Checks.text(x, octets));
    }

    Told text(String s) {
        return text(Checks.octets(s));
    }
}
