import java.math.BigInteger;
import java.util.ArrayList;
import java.util.List;
import java.util.function.IntFunction;
import java.util.function.Supplier;

/**
 * The edges that the document names in promises 26 to 30: each test stands at the edge itself and just beyond it, and
 * says which sentence it holds. Refused calls are looked at in RefusalsTest too.
 */
public final class BoundaryWouldBeTest {
    private final Check check = new Check("BoundaryWouldBeTest");

    public static void main(String[] args) {
        BoundaryWouldBeTest test = new BoundaryWouldBeTest();
        test.promise26Reach();
        test.promise26LikeTheLatestOne();
        test.promise26OfWhatThereIsNow();
        test.promise27();
        test.promise27EachOfTen();
        test.promise27LikeTheLatestOne();
        test.promise27ItsItemStays();
        test.promise27ReachAndLimit();
        test.promise28();
        test.promise28CountIs0();
        test.promise28AsItIsClosed();
        test.promise29();
        test.promise29None();
        test.promise29NotBound();
        test.promise30NewOne();
        test.promise30WrapsAround();
        test.promise30Numbers();
        test.promise30IfThereWasALink();
        test.nothingIsChanged();
        test.check.end();
    }

    /**
     * Promise 26: "Returns the SIZE of a link like the latest one (its ENTRY, SHARED or not), of what there is now,
     * with that."; Promise 26: "`reach`: REACH"
     */
    private void promise26Reach() {
        for (int reach : new int[] {1, 2, 3, 40, 499, 500}) {
            for (int words = Math.max(0, reach - 2); words <= reach + 1; words++) {
                LinkHarbour x = Harbours.withSections(3);
                x.jump(0, 1, false);
                int first = Math.min(words, 200);
                Harbours.fillUp(x, 0, first);
                Harbours.fillUp(x, 1, words - first);
                x.define(2, 1, false, false);
                for (int before : new int[] {1, 500}) {
                    x.bounds(before, 9999);
                    x.link(0, false);
                    int size = x.many(9);
                    String what = "sizeWith(" + reach + ") over " + words;
                    check.due(what, (words <= reach ? 3 : 6) + words, x.sizeWith(reach));
                    check.due(what + ": SIZE is as before", size, x.many(9));
                    check.due(what + ": REACH is as before", before, x.bounds(before, 9999));
                }
            }
        }
    }

    /** Promise 26: "a link like the latest one (its ENTRY, SHARED or not)" */
    private void promise26LikeTheLatestOne() {
        LinkHarbour x = Harbours.withObjectsAndSections(1);
        x.section(0, 1, false);
        x.fill(0, 5);
        x.fill(1, 9);
        x.define(0, 0, false, false);
        x.define(1, 19, false, false);
        x.item(1, 0);
        x.link(0, false);
        check.due("ENTRY 0", 6, x.sizeWith(1));
        x.link(19, false);
        check.due("ENTRY 19", 10, x.sizeWith(1));
        x.link(18, false);
        check.due("an ENTRY without a DEFINITION", 1, x.sizeWith(500));
        check.illegalArgument("a refused link", () -> x.link(20, true));
        check.due("changes nothing", 1, x.sizeWith(500));
        x.link(18, true);
        check.due("SHARED", 15, x.sizeWith(500));
    }

    /** Promise 26: "of what there is now" */
    private void promise26OfWhatThereIsNow() {
        LinkHarbour x = Harbours.withSections(1);
        x.link(0, false);
        check.due("as it was", 1, x.sizeWith(1));
        x.fill(0, 40);
        check.due("a PIECE more", 41, x.sizeWith(1));
        x.section(0, 16, true);
        check.due("a SECTION more", 48, x.sizeWith(1));
        x.common(0, 5, 3, 1);
        x.word(1, 5, 0, false);
        check.due("a COMMON one more", 52, x.sizeWith(1));
        x.object();
        x.section(1, 1, true);
        x.fill(2, 7);
        check.due("an OBJECT in no ITEM", 52, x.sizeWith(1));
        x.item(2, 0);
        check.due("an ITEM more", 59, x.sizeWith(1));
        x.clear();
        check.due("no ITEMS", 1, x.sizeWith(1));
        check.due("the latest link stays", 1, x.many(9));
        x.fill(2, 1);
        x.item(2, 1);
        check.due("an ARCHIVE of which nothing is WANTED", 1, x.sizeWith(1));
        check.due("OBJECTS of the latest link", 1, x.many(7));
    }

    /**
     * Promise 27: "Returns how many FAULTS a link like the latest one (its ENTRY, SHARED or not) would have, of what
     * there is now, with REACH and LIMIT as they are now, if this one was in no ITEM (its own one stays, with what else
     * is in it)."
     */
    private void promise27() {
        LinkHarbour x = Harbours.withObjectsAndSections(4);
        x.define(0, 0, false, false);
        x.word(0, 1, 0, false);
        x.define(1, 1, false, false);
        x.define(2, 1, false, false);
        x.define(3, 0, false, false);
        x.item(1 + 2, 0);
        x.item(4, 0);
        x.link(0, false);
        check.due("FAULT 1 of NAME 1", 1, x.many(10));
        check.due("without the ENTRY", 2, x.faultsWithout(0));
        check.due("without the first one of NAME 1", 0, x.faultsWithout(1));
        check.due("without the second one", 0, x.faultsWithout(2));
        check.due("one that is in no ITEM", 1, x.faultsWithout(3));
        x.item(8, 0);
        check.due("of what there is now: FAULT 1 of NAME 1 is left, without the second one of NAME 0", 1,
                x.faultsWithout(3));
        check.due("of what there is now: that is left without the first one, too", 1, x.faultsWithout(0));
        check.due("of what there is now: FAULT 1 of NAME 0 is left", 1, x.faultsWithout(1));
        check.due("the latest link stays", 1, x.many(10));
        check.due("all are in their ITEMS", 0, x.ofObject(1, 2));
        x.clear();
        for (int object = 0; object < 4; object++) {
            check.due("without ITEMS: FAULT 2", 1, x.faultsWithout(object));
        }
    }

    /** Promise 27: "if this one was in no ITEM" */
    private void promise27EachOfTen() {
        for (int kind = 0; kind < 2; kind++) {
            LinkHarbour x = Harbours.withObjectsAndSections(10);
            x.section(0, 1, true);
            for (int object = 0; object < 10; object++) {
                x.define(object, object, false, false);
            }
            for (int name = 1; name < 9; name++) {
                x.word(0, name, 0, false);
            }
            for (int times = 0; times < 4; times++) {
                x.word(10, 9, 0, false);
            }
            x.item(1023, kind);
            check.due("no FAULT", 0, x.link(0, false));
            check.due("all are TAKEN", 10, x.many(7));
            int[] due = {1, 1, 1, 1, 1, 1, 1, 1, 1, 4};
            for (int object = 0; object < 10; object++) {
                check.due("without " + object, due[object], x.faultsWithout(object));
            }
            check.due("all are TAKEN still", 10, x.many(7));
        }
    }

    /** Promise 27: "a link like the latest one (its ENTRY, SHARED or not)" */
    private void promise27LikeTheLatestOne() {
        LinkHarbour x = Harbours.withObjectsAndSections(3);
        x.define(0, 0, false, false);
        x.word(0, 1, -1, false);
        x.define(1, 1, false, false);
        x.define(2, 19, false, false);
        x.item(7, 0);
        x.link(0, false);
        check.due("ENTRY 0, without 1: FAULTS 3 and 4", 2, x.faultsWithout(1));
        check.due("ENTRY 0, without 2", 0, x.faultsWithout(2));
        x.link(19, false);
        check.due("ENTRY 19, without 1", 0, x.faultsWithout(1));
        check.due("ENTRY 19, without 2: FAULT 2", 1, x.faultsWithout(2));
        x.link(0, true);
        check.due("SHARED, without 1: an IMPORT", 0, x.faultsWithout(1));
        check.due("SHARED, without 0: FAULT 2", 1, x.faultsWithout(0));
        check.illegalArgument("a refused link", () -> x.link(-1, false));
        check.due("changes nothing", 0, x.faultsWithout(1));
    }

    /** Promise 27: "(its own one stays, with what else is in it)" */
    private void promise27ItsItemStays() {
        for (int kind = 0; kind < 3; kind++) {
            LinkHarbour x = Harbours.withObjectsAndSections(4);
            x.define(0, 0, false, false);
            x.word(0, 1, 0, false);
            x.define(1, 2, false, false);
            x.define(3, 1, false, false);
            x.word(3, 2, 0, false);
            x.item(1, 0);
            x.item(2, 1);
            x.item(4, kind);
            x.item(8, 2);
            int due = kind == 2 ? 0 : 1;
            check.due("an ITEM between two ARCHIVES: kind " + kind, due, x.link(0, false));
            check.due("though nothing is in it: kind " + kind, due, x.faultsWithout(2));
        }
        LinkHarbour y = Harbours.withObjectsAndSections(3);
        y.define(0, 0, false, false);
        y.word(0, 1, 0, false);
        y.word(0, 2, 0, false);
        y.define(1, 1, false, false);
        y.define(2, 2, false, false);
        y.item(7, 0);
        y.link(0, false);
        check.due("what else is in it", 1, y.faultsWithout(1));
        check.due("what else is in it, too", 1, y.faultsWithout(2));
    }

    /** Promise 27: "with REACH and LIMIT as they are now" */
    private void promise27ReachAndLimit() {
        LinkHarbour x = Harbours.withSections(1);
        x.object();
        x.jump(0, 0, false);
        x.word(0, 1, 0, false);
        x.define(0, 1, false, false);
        x.bounds(2, 4);
        check.due("SHORT, and a word of LIMIT", 0, x.link(0, false));
        check.due("as it was", 0, x.faultsWithout(1));
        x.bounds(1, 4);
        check.due("LONG, and a word above LIMIT", 1, x.faultsWithout(1));
        x.bounds(1, 7);
        check.due("LONG, and a word of LIMIT", 0, x.faultsWithout(1));
        x.bounds(1, 6);
        check.due("LONG, and a word above it by 1", 1, x.faultsWithout(1));
        x.bounds(2, 3);
        check.due("SHORT, and a word above it by 1", 1, x.faultsWithout(1));
        check.due("the latest link stays", 0, x.many(10));
    }

    /** Promise 28: "Returns the set of those that would be FINISHED, if it was CLOSED now (0, if its COUNT is 0)." */
    private void promise28() {
        LinkHarbour x = Harbours.withLibraries(2, 4, 8, 16, 32, 0);
        for (int library = 0; library < 6; library++) {
            check.due("COUNT is 0", 0, x.goes(library));
        }
        x.open(0, true);
        check.due("all", 63, x.goes(0));
        x.open(5, false);
        check.due("all but the last one", 31, x.goes(0));
        check.due("none, as another one NEEDS it", 0, x.goes(5));
        x.open(1, false);
        check.due("the first one alone", 1, x.goes(0));
        x.open(0, false);
        check.due("none, as COUNT is 2", 0, x.goes(0));
        x.close(0);
        check.due("the first one alone, as COUNT is 1", 1, x.goes(0));
        x.close(0);
        check.due("COUNT is 0 again", 0, x.goes(0));
        check.due("2 to 5 by 1", 2 + 4 + 8 + 16, x.goes(1));
        x.close(1);
        check.due("the last one alone", 32, x.goes(5));
    }

    /** Promise 28: "(0, if its COUNT is 0)" */
    private void promise28CountIs0() {
        LinkHarbour x = Harbours.withLibraries(2, 0);
        check.due("not LOADED", 0, x.goes(1));
        x.open(0, false);
        check.due("LOADED, COUNT is 0", 0, x.goes(1));
        x.open(1, false);
        check.due("COUNT is 1, and another one NEEDS it", 0, x.goes(1));
        x.close(0);
        check.due("COUNT is 1", 2, x.goes(1));
        check.due("it was closed", 0, x.goes(0));
    }

    /** Promise 28: "Returns the set of those that would be FINISHED, if it was CLOSED now" */
    private void promise28AsItIsClosed() {
        int[][] needs = {{0, 0, 0, 0, 0, 0}, {2, 4, 8, 16, 32, 1}, {62, 61, 59, 55, 47, 31}, {6, 8, 8, 0, 8, 16}};
        for (int[] need : needs) {
            for (int opened = 1; opened < 64; opened++) {
                LinkHarbour x = Harbours.withLibraries(need);
                for (int library = 0; library < 6; library++) {
                    if ((opened >> library & 1) == 1) {
                        x.open(library, opened % 3 == 0);
                    }
                }
                for (int library = 0; library < 6; library++) {
                    if ((opened >> library & 1) == 1) {
                        int set = x.goes(library);
                        check.due("as many as are FINISHED", Integer.bitCount(set), x.close(library));
                        for (int k = 0; k < 6; k++) {
                            if ((set >> k & 1) == 1) {
                                check.due("it is not LOADED any more", -1, x.ofLibrary(k, 5));
                            }
                        }
                    }
                }
                check.due("all are away", 0, x.many(4));
            }
        }
    }

    /**
     * Promise 29: "Returns what call() would tell, if it was not BOUND; NONE, if it is not LOADED, or does not IMPORT
     * that."
     */
    private void promise29() {
        for (int to = 0; to < 6; to++) {
            LinkHarbour x = Harbours.withImports(1 << to, 63 - 1, 63 - 2, 63 - 4, 63 - 8, 63 - 16, 63 - 32);
            x.open(5, to % 2 == 1);
            for (int from = 0; from < 6; from++) {
                check.due("it would be BOUND", from == to ? -1 : to, x.wouldBind(from, 1));
                check.due("without one", -1, x.wouldBind(from, 19));
                check.due("nothing is BOUND", 0, x.many(6));
            }
        }
    }

    /** Promise 29: "NONE, if it is not LOADED, or does not IMPORT that." */
    private void promise29None() {
        LinkHarbour x = Harbours.withImports(2, 0, 0);
        x.open(1, true);
        check.due("not LOADED", -1, x.wouldBind(0, 1));
        x.open(0, false);
        check.due("LOADED", 1, x.wouldBind(0, 1));
        for (int name = 0; name < 19; name++) {
            check.due("does not IMPORT that", name == 1 ? 1 : -1, x.wouldBind(0, name));
            check.due("EXPORTS that, or does not IMPORT it", -1, x.wouldBind(1, name));
        }
        x.close(0);
        check.due("not LOADED any more", -1, x.wouldBind(0, 1));
    }

    /** Promise 29: "Returns what call() would tell, if it was not BOUND" */
    private void promise29NotBound() {
        LinkHarbour x = Harbours.withImports(2 + 4, 2, 0, 0);
        x.open(0, false);
        check.due("of its ROW", 1, x.wouldBind(0, 1));
        check.due("as call() tells", 1, x.call(0, 1));
        x.open(2, true);
        check.due("a better one", 2, x.wouldBind(0, 1));
        check.due("call() tells the one to which it is BOUND", 1, x.call(0, 1));
        check.due("it is BOUND as it was", 1, x.ofBinding(0, 1, 2));
        x.close(2);
        check.due("of its ROW again", 1, x.wouldBind(0, 1));
    }

    /** Asks twins, one behind the other, so that each is used for less than 512 calls. */
    private static final class Teller {
        private final Supplier<LinkHarbour> make;
        private final List<Long> numbers = new ArrayList<>();
        private LinkHarbour twin;
        private int asked = 0;

        private interface Call {
            long on(LinkHarbour x);
        }

        Teller(Supplier<LinkHarbour> make) {
            this.make = make;
        }

        long ask(Call call) {
            if (asked % 200 == 0) {
                twin = make.get();
            }
            asked++;
            return call.on(twin);
        }

        void tell(int most, IntFunction<Call> calls) {
            for (int what = 0; what <= most; what++) {
                numbers.add(ask(calls.apply(what)));
            }
        }
    }

    /** The numbers of the digest, by the other calls. */
    private static List<Long> numbersOf(Supplier<LinkHarbour> make, boolean isLinked) {
        Teller teller = new Teller(make);
        teller.tell(12, what -> x -> x.many(what));
        long objects = teller.ask(x -> x.many(0));
        long sections = teller.ask(x -> x.many(1));
        long libraries = teller.ask(x -> x.many(3));
        long size = teller.ask(x -> x.many(9));
        long faults = teller.ask(x -> x.many(10));
        for (int k = 0; k < objects; k++) {
            int object = k;
            teller.tell(3, what -> x -> x.ofObject(object, what));
        }
        for (int k = 0; k < sections; k++) {
            int section = k;
            teller.tell(6, what -> x -> x.ofSection(section, what));
        }
        for (int k = 0; k < 20; k++) {
            int name = k;
            teller.tell(4, what -> x -> x.ofName(name, what));
        }
        for (int k = 0; k < faults; k++) {
            int fault = k;
            teller.tell(3, what -> x -> x.fault(fault, what));
        }
        teller.tell((int) size - 1, address -> x -> x.wordAt(address));
        for (int k = 0; k < libraries; k++) {
            tellLibrary(teller, k);
        }
        if (isLinked) {
            teller.tell(0, none -> x -> x.sizeWith(10));
            teller.tell((int) objects - 1, object -> x -> x.faultsWithout(object));
        }
        return teller.numbers;
    }

    private static void tellLibrary(Teller teller, int library) {
        teller.tell(7, what -> x -> x.ofLibrary(library, what));
        teller.tell(0, none -> x -> x.goes(library));
        for (int k = 0; k < 20; k++) {
            int name = k;
            teller.tell(3, what -> x -> x.ofBinding(library, name, what));
            teller.tell(0, none -> x -> x.wouldBind(library, name));
        }
    }

    /** d without an end of 64 bits, and what of that is left as it wraps around. */
    private static BigInteger whole(List<Long> numbers) {
        BigInteger d = BigInteger.valueOf(58133);
        for (long v : numbers) {
            d = d.multiply(BigInteger.valueOf(31)).add(BigInteger.valueOf(v));
        }
        return d;
    }

    private static long wrapped(BigInteger d) {
        BigInteger wrap = BigInteger.ONE.shiftLeft(64);
        BigInteger left = d.mod(wrap);
        return left.testBit(63) ? left.subtract(wrap).longValueExact() : left.longValueExact();
    }

    /**
     * Promise 30: "Computes a checksum. A number d starts with 58133; for each of the following numbers v, d becomes d
     * * 31 + v, which wraps around as a 64-bit integer"; Promise 30: "Returns d."
     */
    private void promise30NewOne() {
        List<Long> numbers = new ArrayList<>();
        for (int what = 0; what <= 12; what++) {
            numbers.add(0L);
        }
        for (int name = 0; name < 20; name++) {
            numbers.addAll(List.of(-1L, -1L, -1L, 0L, 0L));
        }
        check.due("of a new one", wrapped(whole(numbers)), new LinkHarbour().digest());
        check.due("of a new one, as it was reckoned once by hand", -4890020467116486837L, new LinkHarbour().digest());
    }

    /** Promise 30: "which wraps around as a 64-bit integer" */
    private void promise30WrapsAround() {
        int above = 0;
        int below = 0;
        for (int turn = 0; turn < 40; turn++) {
            int k = turn;
            BigInteger d = whole(numbersOf(() -> oneWord(k), true));
            check.due("d is far beyond 64 bits", 1, d.bitLength() > 500 ? 1 : 0);
            long digest = oneWord(k).digest();
            check.due("as it wraps around", wrapped(d), digest);
            above += digest >= 0 ? 1 : 0;
            below += digest < 0 ? 1 : 0;
        }
        check.due("some are not below 0", 1, above > 5 ? 1 : 0);
        check.due("some are below 0", 1, below > 5 ? 1 : 0);
    }

    private static LinkHarbour oneWord(int k) {
        LinkHarbour x = Harbours.withSections(1 + k % 24);
        x.fill(0, 1 + k);
        x.word(0, 0, k - 20, false);
        x.link(0, k % 2 == 0);
        return x;
    }

    private void digestDue(String what, boolean isLinked, Supplier<LinkHarbour> make) {
        check.due(what, wrapped(whole(numbersOf(make, isLinked))), make.get().digest());
    }

    /**
     * Promise 30: "many() of 0 to 12; OBJECT by OBJECT ofObject() of 0 to 3; SECTION by SECTION ofSection() of 0 to 6;
     * NAME by NAME ofName() of 0 to 4; FAULT by FAULT fault() of 0 to 3; wordAt() of each address of the latest link;
     * LIBRARY by LIBRARY ofLibrary() of 0 to 7, goes(), and NAME by NAME ofBinding() of 0 to 3, and wouldBind()"
     */
    private void promise30Numbers() {
        digestDue("OBJECTS, ahead of all links", false, () -> Harbours.withObjects(10));
        digestDue("SECTIONS, ahead of all links", false, () -> Harbours.withSections(24));
        for (int k = 0; k <= 8; k++) {
            int pieces = k;
            digestDue("FAULTS and words", true, () -> ofPieces(pieces, true));
            digestDue("what there is now", true, () -> ofPieces(pieces, false));
        }
        for (int k = 0; k <= 4; k++) {
            int steps = k;
            digestDue("LIBRARIES, " + k, true, () -> ofLibraries(steps));
        }
        digestDue("six LIBRARIES", true, () -> {
            LinkHarbour x = Harbours.withImports(7, 62, 61, 59, 55, 47, 31);
            x.open(0, true);
            for (int library = 3; library < 6; library++) {
                x.call(library, 1);
            }
            return x;
        });
    }

    /** So many WORDS and JUMPS, which are all in the latest link, or all but the last ones. */
    private static LinkHarbour ofPieces(int pieces, boolean isLinkedLast) {
        LinkHarbour x = Harbours.withSections(2);
        x.link(19, false);
        for (int k = 0; k < pieces; k++) {
            x.link(k, k % 4 == 3);
            x.word(0, k, k - 4, k % 2 == 0);
            x.jump(1, k, k % 3 == 0);
        }
        if (isLinkedLast) {
            x.link(pieces, pieces % 4 == 3);
        }
        return x;
    }

    /** Not LOADED; LOADED; with a binding; with a GLOBAL one; closed. */
    private static LinkHarbour ofLibraries(int steps) {
        LinkHarbour x = Harbours.withImports(2, 2, 0, 1);
        if (steps > 0) {
            x.open(0, false);
        }
        if (steps > 1) {
            x.call(0, 1);
        }
        if (steps > 2) {
            x.open(2, true);
        }
        if (steps > 3) {
            x.close(0);
        }
        return x;
    }

    /** Promise 30: "if there was a link, sizeWith() of 10, and faultsWithout() of each OBJECT." */
    private void promise30IfThereWasALink() {
        digestDue("no link", false, () -> Harbours.withObjects(10));
        digestDue("a refused link is none", false, () -> {
            LinkHarbour x = Harbours.withObjects(10);
            check.illegalArgument("a refused link", () -> x.link(20, false));
            return x;
        });
        digestDue("a link of nothing", true, () -> {
            LinkHarbour x = Harbours.withObjects(10);
            x.link(0, false);
            return x;
        });
        for (int k = 8; k <= 11; k++) {
            int words = k;
            check.due("sizeWith() of 10 over " + k, (k <= 10 ? 3 : 6) + k, over(words).sizeWith(10));
            digestDue("sizeWith() of 10 over " + k, true, () -> over(words));
            digestDue("with REACH and LIMIT as they are now", true, () -> {
                LinkHarbour x = over(words);
                x.bounds(1, 3);
                return x;
            });
        }
    }

    /** A JUMP over so many words. */
    private static LinkHarbour over(int words) {
        LinkHarbour x = Harbours.withSections(2);
        x.jump(0, 1, false);
        x.fill(0, words - 2);
        x.word(0, 1, -9, false);
        x.fill(0, 1);
        x.define(1, 1, false, false);
        x.link(0, false);
        return x;
    }

    /** 3. Libraries: "---- what would be (nothing is changed)." */
    private void nothingIsChanged() {
        LinkHarbour x = inUse();
        LinkHarbour twin = inUse();
        for (int reach : new int[] {1, 10, 500}) {
            x.sizeWith(reach);
        }
        for (int object = 0; object < x.many(0); object++) {
            x.faultsWithout(object);
        }
        for (int library = 0; library < x.many(3); library++) {
            x.goes(library);
            for (int name = 0; name < 20; name++) {
                x.wouldBind(library, name);
            }
        }
        x.digest();
        List<String> want = Picture.of(twin);
        List<String> got = Picture.of(x);
        for (int k = 0; k < want.size(); k++) {
            check.due("nothing is changed", want.get(k), got.get(k));
        }
    }

    private static LinkHarbour inUse() {
        LinkHarbour x = Harbours.withImports(2 + 4, 2, 0, 0);
        x.open(0, false);
        x.call(0, 1);
        x.open(2, true);
        x.fill(0, 3);
        x.jump(0, 0, false);
        x.item(2, 1);
        x.bounds(7, 5);
        return x;
    }
}
