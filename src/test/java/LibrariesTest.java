/** Promises 18 to 25: libraries, who is bound to whom, and what is counted. */
public final class LibrariesTest {
    private static final int[] NO_LIBRARIES = {-1, 6, 7, Integer.MAX_VALUE, Integer.MIN_VALUE};
    private static final int[] NO_NAMES = {-1, 20, Integer.MAX_VALUE, Integer.MIN_VALUE};

    private final Check check = new Check("LibrariesTest");

    public static void main(String[] args) {
        LibrariesTest test = new LibrariesTest();
        test.promise18Publish();
        test.promise18Image();
        test.promise19Open();
        test.promise19Order();
        test.promise19Base();
        test.promise19LaterOnes();
        test.promise20Close();
        test.promise20Bindings();
        test.promise21Call();
        test.promise21Search();
        test.promise22OfBinding();
        test.promise23OfLibrary();
        test.promise24Many();
        test.promise25UsedPart();
        test.check.end();
    }

    /**
     * A harbour whose latest link is SHARED and without FAULTS: OBJECT 0 defines NAME 0; OBJECT 1 imports NAMES 5
     * and 6; OBJECT 2 defines 5, behind 3 words; OBJECT 3 defines 5 and 6. Each has one SECTION.
     */
    static LinkHarbour harbour() {
        LinkHarbour x = new LinkHarbour();
        for (int k = 0; k < 4; k++) {
            x.object();
            x.section(k, 1, true);
        }
        x.define(0, 0, false, false);
        x.word(0, 0, 0, false);
        x.define(1, 1, false, true);
        x.jump(1, 5, false);
        x.word(1, 6, 0, true);
        x.fill(2, 3);
        x.define(2, 5, false, false);
        x.define(3, 5, true, false);
        x.fill(3, 1);
        x.define(3, 6, false, false);
        return x;
    }

    /** Publishes an image of that OBJECT alone. */
    static int publish(LinkHarbour x, int object, int needs) {
        x.clear();
        x.item(1 << object, 0);
        int[] entries = {0, 1, 5, 5};
        x.link(entries[object], true);
        return x.publish(needs);
    }

    /** LIBRARIES of OBJECT 0 that NEED those. */
    private static LinkHarbour withNeeds(int... needs) {
        LinkHarbour x = harbour();
        for (int need : needs) {
            publish(x, 0, need);
        }
        return x;
    }

    private void promise18Publish() {
        LinkHarbour x = harbour();
        check.illegalState("18: ahead of all links", () -> x.publish(0));
        check.illegalArgument("18: no set goes ahead of no link", () -> x.publish(64));
        check.illegalArgument("18: its own number goes ahead of no link", () -> x.publish(1));
        x.item(1, 0);
        x.link(0, false);
        check.illegalState("18: not SHARED", () -> x.publish(0));
        x.link(9, true);
        check.illegalState("18: with FAULTS", () -> x.publish(0));
        x.link(0, true);
        for (int needs : new int[] {-1, 64, 65, Integer.MAX_VALUE, Integer.MIN_VALUE}) {
            check.illegalArgument("18: publish(" + needs + ")", () -> x.publish(needs));
        }
        check.illegalArgument("18: its own number among others", () -> x.publish(63));
        check.due("18: publish(62)", 0, x.publish(62));
        check.illegalArgument("18: its own number", () -> x.publish(2));
        check.due("18: the same link again", 1, x.publish(61));
        check.illegalArgument("18: its own number, of the third one", () -> x.publish(4));
        check.due("18: publish(0)", 2, x.publish(0));
        check.due("18: LIBRARIES after refused ones", 3, x.many(3));
        x.link(0, false);
        check.illegalState("18: a later link that is not SHARED", () -> x.publish(0));
        x.link(0, true);
        check.due("18: publish(0)", 3, x.publish(0));
        check.due("18: publish(0)", 4, x.publish(0));
        check.illegalArgument("18: its own number, of the sixth one", () -> x.publish(32));
        check.due("18: publish(31)", 5, x.publish(31));
        check.illegalState("18: a 7th one", () -> x.publish(0));
        check.illegalState("18: a 7th one has no number in a set", () -> x.publish(63));
        check.illegalArgument("18: no set goes ahead of 6", () -> x.publish(64));
    }

    private void promise18Image() {
        LinkHarbour x = harbour();
        x.object();
        x.section(4, 8, false);
        x.define(4, 10, true, false);
        x.define(4, 11, false, true);
        x.fill(4, 2);
        x.word(4, 12, 0, false);
        x.common(4, 13, 2, 16);
        x.item(16, 0);
        x.link(10, true);
        x.publish(0);
        check.due("18: SIZE", 18, x.ofLibrary(0, 0));
        check.due("18: EXPORTS", 2, x.ofLibrary(0, 1));
        check.due("18: IMPORTS", 1, x.ofLibrary(0, 2));
        check.due("18: a WEAK EXPORT", 8, x.ofBinding(0, 10, 0));
        check.due("18: a HIDDEN one is none", -1, x.ofBinding(0, 11, 0));
        check.due("18: a COMMON EXPORT", 16, x.ofBinding(0, 13, 0));
        check.due("18: an IMPORT is no EXPORT", -1, x.ofBinding(0, 12, 0));
        check.due("18: an IMPORT", 1, x.ofBinding(0, 12, 1));
        x.fill(4, 30);
        x.common(4, 14, 2, 16);
        x.link(10, true);
        check.due("18: a later link changes no LIBRARY", 18, x.ofLibrary(0, 0));
        check.due("18: nor its EXPORTS", -1, x.ofBinding(0, 14, 0));
    }

    private void promise19Open() {
        LinkHarbour x = withNeeds(0, 1, 2);
        for (int library : new int[] {-1, 3, 6, Integer.MAX_VALUE, Integer.MIN_VALUE}) {
            check.outOfBounds("19: open(" + library + ")", () -> x.open(library, true));
        }
        check.due("19: open with all that it NEEDS", 3, x.open(2, false));
        check.due("19: COUNT", 1, x.ofLibrary(2, 4));
        check.due("19: COUNT of one that is NEEDED", 0, x.ofLibrary(1, 4));
        check.due("19: LOADED", 3, x.many(4));
        check.due("19: not GLOBAL", 0, x.many(5));
        check.due("19: open again", 0, x.open(2, false));
        check.due("19: COUNT again", 2, x.ofLibrary(2, 4));
        check.due("19: globally, LOADED ahead of this", 0, x.open(1, true));
        check.due("19: its ROW is GLOBAL", 2, x.many(5));
        check.due("19: first the opened one", 0, x.ofLibrary(1, 6));
        check.due("19: then what it NEEDS", 1, x.ofLibrary(0, 6));
        x.open(2, true);
        check.due("19: what is GLOBAL stays in its place", 0, x.ofLibrary(1, 6));
        check.due("19: a new one at the end", 2, x.ofLibrary(2, 6));
        check.outOfBounds("19: of a new one", () -> new LinkHarbour().open(0, true));
    }

    private void placesDue(LinkHarbour x, String what, int which, int... places) {
        for (int library = 0; library < places.length; library++) {
            check.due(what + " of " + library, places[library], x.ofLibrary(library, which));
        }
    }

    private void promise19Order() {
        // 0 NEEDS 2 and 4; 2 NEEDS 1; 4 NEEDS 3 and 5; 1 NEEDS 0.
        LinkHarbour x = withNeeds(4 + 16, 1, 2, 0, 8 + 32, 0);
        check.due("19: all", 6, x.open(0, true));
        placesDue(x, "19: the ROW goes by breadth: GLOBAL place", 6, 0, 3, 1, 4, 2, 5);
        placesDue(x, "19: BASES in the order of the ROW", 5, 64, 256, 128, 320, 192, 384);
        placesDue(x, "19: one goes by depth: INITIALISED place", 7, 5, 0, 1, 2, 4, 3);
        LinkHarbour chain = withNeeds(2, 4, 8, 16, 32, 0);
        check.due("19: a chain of all", 6, chain.open(0, true));
        placesDue(chain, "19: a chain: GLOBAL place", 6, 0, 1, 2, 3, 4, 5);
        placesDue(chain, "19: a chain: INITIALISED place", 7, 5, 4, 3, 2, 1, 0);
        LinkHarbour apart = withNeeds(2, 0, 0);
        apart.open(0, false);
        apart.open(2, true);
        check.due("19: only its own ROW is GLOBAL", 1, apart.many(5));
        LinkHarbour y = withNeeds(2, 4, 1);
        y.open(1, true);
        placesDue(y, "19: a ring: GLOBAL place", 6, 2, 0, 1);
        placesDue(y, "19: a ring: INITIALISED place", 7, 0, 2, 1);
        LinkHarbour z = withNeeds(6, 0, 2);
        z.open(1, false);
        z.open(0, true);
        placesDue(z, "19: LOADED ahead of this: GLOBAL place", 6, 0, 1, 2);
        placesDue(z, "19: LOADED ahead of this: INITIALISED place", 7, 2, 0, 1);
    }

    private void promise19Base() {
        LinkHarbour x = new LinkHarbour();
        x.object();
        x.section(0, 1, true);
        x.define(0, 0, false, false);
        x.fill(0, 40);
        x.fill(0, 22);
        x.item(1, 0);
        x.link(0, true);
        x.publish(0);
        x.fill(0, 1);
        x.link(0, true);
        x.publish(0);
        x.fill(0, 1);
        x.link(0, true);
        x.publish(0);
        placesDue(x, "19: SIZE", 0, 63, 64, 65);
        x.open(0, false);
        x.open(1, false);
        x.open(2, false);
        placesDue(x, "19: BASE", 5, 64, 128, 192);
        x.close(0);
        x.open(0, false);
        placesDue(x, "19: BASE is not below BASE and SIZE of any", 5, 320, 128, 192);
        x.close(0);
        x.close(2);
        x.open(0, false);
        placesDue(x, "19: BASE behind a SIZE of just 64", 5, 192, 128, -1);
        x.close(1);
        x.close(0);
        x.open(1, false);
        check.due("19: BASE with nothing LOADED", 64, x.ofLibrary(1, 5));
    }

    private void promise19LaterOnes() {
        LinkHarbour x = withNeeds(2);
        check.due("19: what is not there yet does not count", 1, x.open(0, true));
        publish(x, 0, 0);
        check.due("19: nor is it LOADED as it comes", 1, x.many(4));
        check.due("19: opened again, it is", 1, x.open(0, false));
        check.due("19: COUNT", 2, x.ofLibrary(0, 4));
        check.due("19: INITIALISED behind the one that NEEDS it", 1, x.ofLibrary(1, 7));
        check.due("19: not GLOBAL", -1, x.ofLibrary(1, 6));
        x.open(0, true);
        check.due("19: GLOBAL", 1, x.ofLibrary(1, 6));
    }

    private void promise20Close() {
        LinkHarbour x = withNeeds(2, 0, 2, 0);
        for (int library : new int[] {-1, 4, 6, Integer.MAX_VALUE, Integer.MIN_VALUE}) {
            check.outOfBounds("20: close(" + library + ")", () -> x.close(library));
        }
        check.illegalState("20: close of one that was never opened", () -> x.close(0));
        x.open(0, true);
        check.illegalState("20: close of one that is just NEEDED", () -> x.close(1));
        x.open(0, false);
        x.open(2, true);
        check.due("20: COUNT is above 0 still", 0, x.close(0));
        check.due("20: COUNT", 1, x.ofLibrary(0, 4));
        check.due("20: what another one NEEDS stays", 1, x.close(0));
        check.illegalState("20: close again", () -> x.close(0));
        check.due("20: COUNT is 0", 0, x.ofLibrary(0, 4));
        check.due("20: no BASE", -1, x.ofLibrary(0, 5));
        check.due("20: not GLOBAL", -1, x.ofLibrary(0, 6));
        check.due("20: not INITIALISED", -1, x.ofLibrary(0, 7));
        placesDue(x, "20: the GLOBAL ones move up", 6, -1, 0, 1, -1);
        placesDue(x, "20: the INITIALISED ones move up", 7, -1, 0, 1, -1);
        x.open(1, false);
        check.due("20: one that was opened itself stays", 1, x.close(2));
        check.due("20: GLOBAL, as it is LOADED still", 0, x.ofLibrary(1, 6));
        check.due("20: the last one", 1, x.close(1));
        check.due("20: nothing is LOADED", 0, x.many(4));
        check.due("20: nothing is GLOBAL", 0, x.many(5));
        LinkHarbour y = withNeeds(2, 1);
        y.open(0, false);
        y.open(1, false);
        check.due("20: a ring stays as long as one of it is opened", 0, y.close(0));
        check.due("20: and goes together", 2, y.close(1));
    }

    private void promise20Bindings() {
        LinkHarbour x = harbour();
        publish(x, 1, 0);
        publish(x, 2, 0);
        publish(x, 3, 0);
        x.open(0, false);
        x.open(2, true);
        x.call(0, 6);
        x.open(1, true);
        x.call(0, 5);
        check.due("20: two bindings", 2, x.many(6));
        check.due("20: both to the first GLOBAL one", 2, x.ofBinding(0, 5, 2));
        x.close(2);
        check.due("20: what is BOUND to it is BOUND no more", 0, x.many(6));
        check.due("20: nor where it is", -1, x.ofBinding(0, 5, 3));
        check.due("20: it is BOUND anew", 1, x.call(0, 5));
        x.close(1);
        x.open(2, true);
        x.call(0, 5);
        x.close(0);
        check.due("20: nor are its own bindings", 0, x.many(6));
        x.open(0, false);
        check.due("20: also as it is LOADED again", -1, x.ofBinding(0, 5, 2));
        x.call(0, 5);
        x.open(1, false);
        x.close(1);
        check.due("20: a binding to another one stays", 2, x.ofBinding(0, 5, 2));
    }

    private void promise21Call() {
        LinkHarbour x = harbour();
        publish(x, 1, 2);
        check.illegalState("21: not LOADED", () -> x.call(0, 5));
        publish(x, 2, 0);
        x.open(0, false);
        for (int library : NO_LIBRARIES) {
            check.outOfBounds("21: call(" + library + ", 5)", () -> x.call(library, 5));
            check.outOfBounds("21: call(" + library + ", 20)", () -> x.call(library, 20));
        }
        for (int name : NO_NAMES) {
            check.illegalArgument("21: call(0, " + name + ")", () -> x.call(0, name));
        }
        check.illegalState("21: does not IMPORT that", () -> x.call(0, 7));
        check.illegalState("21: what it EXPORTS it does not IMPORT", () -> x.call(1, 5));
        check.due("21: BOUND", 1, x.call(0, 5));
        check.due("21: BOUND still", 1, x.call(0, 5));
        check.due("21: one binding", 1, x.many(6));
        check.due("21: without one", -1, x.call(0, 6));
        check.due("21: no binding", 1, x.many(6));
        publish(x, 3, 0);
        x.open(2, false);
        check.due("21: one that is neither GLOBAL nor in its ROW", -1, x.call(0, 6));
        x.open(2, true);
        check.due("21: a GLOBAL one", 2, x.call(0, 6));
        check.due("21: it stays BOUND, also if a better one comes", 1, x.call(0, 5));
        x.close(0);
        check.illegalArgument("21: no NAME goes ahead of not LOADED", () -> x.call(0, 20));
        check.illegalState("21: not LOADED any more", () -> x.call(0, 5));
    }

    private void promise21Search() {
        LinkHarbour x = harbour();
        publish(x, 1, 2 + 8);
        publish(x, 0, 4);
        publish(x, 2, 0);
        publish(x, 3, 0);
        publish(x, 2, 0);
        x.open(0, false);
        check.due("21: its own ROW goes by breadth", 3, x.call(0, 5));
        x.open(4, true);
        check.due("21: it stays BOUND", 3, x.call(0, 5));
        x.close(0);
        x.open(0, true);
        check.due("21: the GLOBAL ones go ahead", 4, x.call(0, 5));
        check.due("21: in their order", 3, x.call(0, 6));
        LinkHarbour z = harbour();
        publish(z, 1, 0);
        publish(z, 0, 4);
        publish(z, 2, 0);
        z.open(0, false);
        z.open(1, false);
        check.due("21: not what is in another ROW", -1, z.call(0, 5));
        bindNameZero();
        LinkHarbour y = harbour();
        publish(y, 1, 2 + 4);
        y.open(0, false);
        publish(y, 2, 0);
        publish(y, 3, 0);
        check.due("21: what is not LOADED is passed over: none", -1, y.call(0, 5));
        y.open(2, false);
        check.due("21: what is not LOADED is passed over: the next one", 2, y.call(0, 5));
    }

    private void bindNameZero() {
        LinkHarbour x = harbour();
        x.object();
        x.section(4, 1, true);
        x.define(4, 9, false, true);
        x.jump(4, 0, false);
        x.item(16, 0);
        x.link(9, true);
        x.publish(2);
        publish(x, 0, 0);
        x.open(0, false);
        check.due("21: NAME 0 of the first LIBRARY", 1, x.call(0, 0));
        check.due("24: is a binding", 1, x.many(6));
        x.close(0);
        check.due("20: and goes with the others", 0, x.many(6));
    }

    private void promise22OfBinding() {
        LinkHarbour x = harbour();
        publish(x, 1, 2);
        publish(x, 2, 0);
        check.due("22: EXPORTED address", 4, x.ofBinding(1, 5, 0));
        check.due("22: not EXPORTED", -1, x.ofBinding(1, 6, 0));
        check.due("22: IMPORTED", 1, x.ofBinding(0, 5, 1));
        check.due("22: IMPORTED as WEAK", 1, x.ofBinding(0, 6, 1));
        check.due("22: not IMPORTED", 0, x.ofBinding(1, 5, 1));
        check.due("22: not BOUND", -1, x.ofBinding(0, 5, 2));
        check.due("22: nowhere", -1, x.ofBinding(0, 5, 3));
        x.open(0, false);
        check.due("22: not BOUND ahead of a call", -1, x.ofBinding(0, 5, 2));
        x.call(0, 5);
        check.due("22: BOUND", 1, x.ofBinding(0, 5, 2));
        check.due("22: where", 128 + 4, x.ofBinding(0, 5, 3));
        check.due("22: another NAME is not", -1, x.ofBinding(0, 6, 2));
        for (int library : NO_LIBRARIES) {
            check.outOfBounds("22: ofBinding(" + library + ", 5, 0)", () -> x.ofBinding(library, 5, 0));
            check.outOfBounds("22: ofBinding(" + library + ", 20, 4)", () -> x.ofBinding(library, 20, 4));
        }
        for (int name : NO_NAMES) {
            check.illegalArgument("22: ofBinding(0, " + name + ", 0)", () -> x.ofBinding(0, name, 0));
        }
        for (int what : new int[] {-1, 4, Integer.MAX_VALUE, Integer.MIN_VALUE}) {
            check.illegalArgument("22: ofBinding(0, 5, " + what + ")", () -> x.ofBinding(0, 5, what));
        }
    }

    private void promise23OfLibrary() {
        LinkHarbour x = harbour();
        publish(x, 3, 62);
        publish(x, 1, 1);
        check.due("23: SIZE", 2, x.ofLibrary(0, 0));
        check.due("23: SIZE of another one", 4, x.ofLibrary(1, 0));
        check.due("23: EXPORTS", 2, x.ofLibrary(0, 1));
        check.due("23: no EXPORTS", 0, x.ofLibrary(1, 1));
        check.due("23: no IMPORTS", 0, x.ofLibrary(0, 2));
        check.due("23: IMPORTS", 2, x.ofLibrary(1, 2));
        check.due("23: NEEDS, as it was published", 62, x.ofLibrary(0, 3));
        check.due("23: COUNT at first", 0, x.ofLibrary(0, 4));
        for (int what = 5; what <= 7; what++) {
            check.due("23: NONE, as it is not LOADED: " + what, -1, x.ofLibrary(0, what));
        }
        x.open(1, false);
        check.due("23: COUNT", 1, x.ofLibrary(1, 4));
        check.due("23: BASE", 128, x.ofLibrary(0, 5));
        check.due("23: not GLOBAL", -1, x.ofLibrary(0, 6));
        x.open(0, true);
        check.due("23: place among the GLOBAL ones", 1, x.ofLibrary(1, 6));
        check.due("23: place among the INITIALISED ones", 0, x.ofLibrary(0, 7));
        check.due("23: place among the INITIALISED ones, of the other", 1, x.ofLibrary(1, 7));
        for (int library : new int[] {-1, 2, 6, Integer.MAX_VALUE, Integer.MIN_VALUE}) {
            check.outOfBounds("23: ofLibrary(" + library + ", 0)", () -> x.ofLibrary(library, 0));
            check.outOfBounds("23: ofLibrary(" + library + ", 8)", () -> x.ofLibrary(library, 8));
        }
        for (int what : new int[] {-1, 8, Integer.MAX_VALUE, Integer.MIN_VALUE}) {
            check.illegalArgument("23: ofLibrary(0, " + what + ")", () -> x.ofLibrary(0, what));
        }
    }

    private void promise24Many() {
        LinkHarbour x = harbour();
        for (int what : new int[] {-1, 13, Integer.MAX_VALUE, Integer.MIN_VALUE}) {
            check.illegalArgument("24: many(" + what + ")", () -> x.many(what));
        }
        for (int what = 7; what <= 12; what++) {
            check.due("24: many(" + what + ") ahead of all links", 0, x.many(what));
        }
        publish(x, 1, 2);
        publish(x, 2, 0);
        x.open(0, false);
        x.open(1, true);
        x.call(0, 5);
        x.object();
        x.section(4, 1, true);
        x.clear();
        x.item(1, 0);
        x.item(2, 0);
        x.item(4, 1);
        x.bounds(1, 9999);
        x.link(19, true);
        int[] due = {5, 5, 3, 2, 2, 1, 1, 3, 3, 11, 1, 1, 1};
        for (int what = 0; what <= 12; what++) {
            check.due("24: many(" + what + ")", due[what], x.many(what));
        }
    }

    private void promise25UsedPart() {
        LinkHarbour x = harbour();
        check.due("25: ahead of all links", 0.0, x.usedPart());
        x.link(0, false);
        check.due("25: nothing is used", 0.0, x.usedPart());
        x.item(4, 0);
        x.link(5, false);
        check.due("25: 3 of 4", 0.75, x.usedPart());
        x.section(2, 16, true);
        x.fill(4, 5);
        x.common(2, 9, 2, 8);
        x.link(9, false);
        check.due("25: 10 of 26, not cut", 10.0 / 26.0, x.usedPart());
        x.fill(4, 1);
        check.due("25: of the latest link", 10.0 / 26.0, x.usedPart());
        x.sizeWith(3);
        check.due("25: not of what would be", 10.0 / 26.0, x.usedPart());
    }
}
