import java.util.ArrayList;
import java.util.List;

/**
 * All that a harbour tells, and all that it would tell later: what shows by links of what there is, by opening and
 * closing, and by REACH and LIMIT. The harbour is spent by that: a picture is compared with that of a twin, which
 * was made by the same calls. Some 150 calls, so that few may go ahead of it.
 */
final class Picture {
    private final LinkHarbour x;
    private final List<String> lines = new ArrayList<>();

    private interface Call {
        long answer();
    }

    private Picture(LinkHarbour x) {
        this.x = x;
    }

    static List<String> of(LinkHarbour x) {
        Picture picture = new Picture(x);
        picture.look("as it is");
        picture.links("of the ITEMS as they are, with REACH and LIMIT as they are");
        picture.libraries();
        picture.tell("REACH", () -> x.bounds(40, 9999));
        picture.tell("clear()", x::clear);
        picture.tell("item() of all", () -> x.item((1 << x.many(0)) - 1, 0));
        picture.links("of all OBJECTS");
        picture.tell("object()", x::object);
        picture.tell("section()", () -> x.section(0, 1, true));
        picture.tell("publish()", () -> x.publish(0));
        picture.look("at the end");
        return picture.lines;
    }

    private void tell(String what, Call call) {
        String answer;
        try {
            answer = String.valueOf(call.answer());
        } catch (RuntimeException e) {
            answer = e.getClass().getName();
        }
        lines.add(what + " -> " + answer);
    }

    private void look(String when) {
        tell(when + ": usedPart()", () -> Double.doubleToLongBits(x.usedPart()));
        tell(when + ": sizeWith(1)", () -> x.sizeWith(1));
        tell(when + ": sizeWith(500)", () -> x.sizeWith(500));
        tell(when + ": digest()", x::digest);
    }

    private void links(String what) {
        int[] entries = {0, 1, 2, 19};
        for (int entry : entries) {
            tell("link(" + entry + ", true) " + what, () -> x.link(entry, true));
            tell("its digest()", x::digest);
            tell("link(" + entry + ", false) " + what, () -> x.link(entry, false));
            tell("its digest()", x::digest);
        }
    }

    private void libraries() {
        for (int k = 0; k < x.many(3); k++) {
            int library = k;
            tell("open(" + library + ")", () -> x.open(library, true));
            for (int name : new int[] {0, 1, 19}) {
                tell("call(" + library + ", " + name + ")", () -> x.call(library, name));
            }
        }
        tell("all are LOADED: digest()", x::digest);
        for (int k = 0; k < x.many(3); k++) {
            int library = k;
            for (int times = 0; times < 4 && x.ofLibrary(library, 4) > 0; times++) {
                tell("close(" + library + ")", () -> x.close(library));
            }
            tell("digest()", x::digest);
        }
    }
}
