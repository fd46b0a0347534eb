import java.util.List;
import java.util.function.Supplier;

/**
 * What a refused call has to be: it throws just the class that the document names, and its harbour tells then, and
 * later, the same as a twin that never had that call ("A method that throws an exception changes nothing").
 */
final class Refusals {
    private final Check check;

    interface Call {
        long on(LinkHarbour x);
    }

    Refusals(Check check) {
        this.check = check;
    }

    void outOfBounds(String what, Supplier<LinkHarbour> make, Call call) {
        LinkHarbour x = make.get();
        check.outOfBounds(what, () -> call.on(x));
        sameAsTwin(what, x, make.get());
    }

    void illegalArgument(String what, Supplier<LinkHarbour> make, Call call) {
        LinkHarbour x = make.get();
        check.illegalArgument(what, () -> call.on(x));
        sameAsTwin(what, x, make.get());
    }

    void illegalState(String what, Supplier<LinkHarbour> make, Call call) {
        LinkHarbour x = make.get();
        check.illegalState(what, () -> call.on(x));
        sameAsTwin(what, x, make.get());
    }

    private void sameAsTwin(String what, LinkHarbour x, LinkHarbour twin) {
        List<String> want = Picture.of(twin);
        List<String> got = Picture.of(x);
        check.due(what + ": how much there is to tell behind it", want.size(), got.size());
        for (int k = 0; k < want.size() && k < got.size(); k++) {
            check.due(what + ": nothing is changed", want.get(k), got.get(k));
        }
    }
}
