/** Promises 26 to 30: what would be, without a change, and the digest. */
public final class WouldBeTest {
    private final Check check = new Check("WouldBeTest");

    public static void main(String[] args) {
        WouldBeTest test = new WouldBeTest();
        test.promise26SizeWith();
        test.promise27FaultsWithout();
        test.promise28Goes();
        test.promise29WouldBind();
        test.promise30Digest();
        test.nothingIsChanged();
        test.check.end();
    }

    private void promise26SizeWith() {
        LinkHarbour x = new LinkHarbour();
        check.illegalState("26: ahead of all links", () -> x.sizeWith(1));
        for (int reach : new int[] {0, -1, 501, Integer.MAX_VALUE, Integer.MIN_VALUE}) {
            check.illegalArgument("26: sizeWith(" + reach + ")", () -> x.sizeWith(reach));
        }
        x.object();
        x.section(0, 1, true);
        x.section(0, 1, false);
        x.define(0, 0, false, false);
        x.define(1, 1, false, false);
        x.fill(1, 40);
        x.jump(0, 0, false);
        x.item(1, 0);
        x.link(0, false);
        check.due("26: SHORT", 3, x.sizeWith(2));
        check.due("26: LONG", 6, x.sizeWith(1));
        check.due("26: REACH is as before", 40, x.bounds(1, 9999));
        check.due("26: its own REACH", 3, x.sizeWith(500));
        x.fill(0, 7);
        check.due("26: of what there is now", 10, x.sizeWith(2));
        check.due("26: the latest link stays", 3, x.many(9));
        x.link(0, true);
        check.due("26: SHARED, like the latest one", 50, x.sizeWith(2));
        x.link(1, false);
        check.due("26: with its ENTRY", 50, x.sizeWith(2));
        x.clear();
        check.due("26: of nothing", 1, x.sizeWith(500));
        for (int reach : new int[] {0, 501}) {
            check.illegalArgument("26: sizeWith(" + reach + ") behind a link", () -> x.sizeWith(reach));
        }
    }

    private void promise27FaultsWithout() {
        LinkHarbour x = new LinkHarbour();
        check.outOfBounds("27: no OBJECT goes ahead of no link", () -> x.faultsWithout(0));
        for (int k = 0; k < 4; k++) {
            x.object();
            x.section(k, 1, k == 0);
        }
        check.illegalState("27: ahead of all links", () -> x.faultsWithout(0));
        x.define(0, 0, false, false);
        x.word(0, 1, 9, false);
        x.word(0, 2, 0, true);
        x.define(1, 1, false, false);
        x.define(2, 1, false, false);
        x.fill(2, 3);
        x.define(2, 2, false, false);
        x.item(1, 0);
        x.item(2 + 4, 0);
        check.due("27: NAME 1 twice", 1, x.link(0, false));
        check.due("27: without the ENTRY", 2, x.faultsWithout(0));
        check.due("27: without one of the two", 0, x.faultsWithout(1));
        check.due("27: without the other", 0, x.faultsWithout(2));
        check.due("27: without one that is in no ITEM", 1, x.faultsWithout(3));
        x.bounds(40, 11);
        check.due("27: with LIMIT as it is now", 1, x.faultsWithout(1));
        x.bounds(40, 9999);
        for (int object : new int[] {-1, 4, 10, Integer.MAX_VALUE, Integer.MIN_VALUE}) {
            check.outOfBounds("27: faultsWithout(" + object + ")", () -> x.faultsWithout(object));
        }
        x.clear();
        x.item(2, 0);
        x.item(1 + 4, 2);
        x.link(0, false);
        check.due("27: NAME 1 is defined, so that 2 is not drawn", 0, x.many(10));
        check.due("27: an ITEM stays, though nothing is in it", 0, x.faultsWithout(1));
        x.clear();
        x.item(1, 0);
        x.link(0, false);
        check.due("27: of what there is now", 1, x.many(10));
        x.item(2, 1);
        check.due("27: a later ITEM", 1, x.faultsWithout(1));
        check.due("27: without one beside it", 0, x.faultsWithout(2));
        x.link(0, true);
        check.due("27: SHARED, like the latest one", 0, x.faultsWithout(1));
        whatStaysOfTheItem();
        reachAsItIsNow();
    }

    /** The PLAIN ITEM parts two ARCHIVES, also if its only OBJECT is away. */
    private void whatStaysOfTheItem() {
        LinkHarbour x = new LinkHarbour();
        for (int k = 0; k < 4; k++) {
            x.object();
            x.section(k, 1, k == 0);
        }
        x.define(0, 0, false, false);
        x.word(0, 1, 0, false);
        x.define(1, 2, false, false);
        x.define(3, 1, false, false);
        x.word(3, 2, 0, false);
        x.item(1, 0);
        x.item(2, 1);
        x.item(4, 0);
        x.item(8, 2);
        check.due("27: 2 is behind a PLAIN one", 1, x.link(0, false));
        check.due("27: and is so without its OBJECT", 1, x.faultsWithout(2));
    }

    /** A JUMP that grows moves a word above LIMIT. */
    private void reachAsItIsNow() {
        LinkHarbour x = new LinkHarbour();
        x.object();
        x.object();
        x.section(0, 1, true);
        x.section(0, 1, true);
        x.define(0, 0, false, false);
        x.jump(0, 0, false);
        x.word(0, 1, 0, false);
        x.define(1, 1, false, false);
        x.item(1, 0);
        x.bounds(40, 4);
        check.due("27: SHORT", 0, x.link(0, false));
        x.bounds(1, 4);
        check.due("27: with REACH as it is now", 1, x.faultsWithout(1));
        check.due("27: the latest link stays", 0, x.many(10));
    }

    private void promise28Goes() {
        LinkHarbour x = LibrariesTest.harbour();
        check.outOfBounds("28: goes(0) of none", () -> x.goes(0));
        LibrariesTest.publish(x, 0, 2);
        LibrariesTest.publish(x, 0, 0);
        LibrariesTest.publish(x, 0, 2);
        for (int library : new int[] {-1, 3, 6, Integer.MAX_VALUE, Integer.MIN_VALUE}) {
            check.outOfBounds("28: goes(" + library + ")", () -> x.goes(library));
        }
        check.due("28: COUNT is 0", 0, x.goes(0));
        x.open(0, false);
        check.due("28: with all that it NEEDS", 3, x.goes(0));
        check.due("28: COUNT is 0, though it is LOADED", 0, x.goes(1));
        x.open(2, false);
        check.due("28: what another one NEEDS stays", 1, x.goes(0));
        x.open(0, false);
        check.due("28: COUNT is above 1", 0, x.goes(0));
        check.due("28: COUNT is as before", 2, x.ofLibrary(0, 4));
        check.due("28: all are LOADED as before", 3, x.many(4));
        x.close(0);
        check.due("28: as it goes", 1, x.close(0));
        check.due("28: the last one", 6, x.goes(2));
    }

    private void promise29WouldBind() {
        LinkHarbour x = LibrariesTest.harbour();
        check.outOfBounds("29: wouldBind(0, 5) of none", () -> x.wouldBind(0, 5));
        LibrariesTest.publish(x, 1, 2);
        LibrariesTest.publish(x, 2, 0);
        LibrariesTest.publish(x, 3, 0);
        for (int library : new int[] {-1, 3, 6, Integer.MAX_VALUE, Integer.MIN_VALUE}) {
            check.outOfBounds("29: wouldBind(" + library + ", 5)", () -> x.wouldBind(library, 5));
            check.outOfBounds("29: wouldBind(" + library + ", 20)", () -> x.wouldBind(library, 20));
        }
        for (int name : new int[] {-1, 20, Integer.MAX_VALUE, Integer.MIN_VALUE}) {
            check.illegalArgument("29: wouldBind(0, " + name + ")", () -> x.wouldBind(0, name));
        }
        x.open(2, true);
        check.due("29: not LOADED", -1, x.wouldBind(0, 6));
        x.close(2);
        x.open(0, false);
        check.due("29: does not IMPORT that", -1, x.wouldBind(1, 5));
        check.due("29: of its ROW", 1, x.wouldBind(0, 5));
        check.due("29: without one", -1, x.wouldBind(0, 6));
        check.due("29: nothing is BOUND by that", 0, x.many(6));
        x.call(0, 5);
        x.open(2, true);
        check.due("29: as if it was not BOUND", 2, x.wouldBind(0, 5));
        check.due("29: a GLOBAL one", 2, x.wouldBind(0, 6));
        check.due("29: it is BOUND as before", 1, x.ofBinding(0, 5, 2));
    }

    private static long mix(long d, long v) {
        return d * 31 + v;
    }

    /** The digest of a harbour, by its other calls. */
    private static long digestOf(LinkHarbour x, boolean isLinked) {
        long d = 58133;
        for (int what = 0; what <= 12; what++) {
            d = mix(d, x.many(what));
        }
        for (int k = 0, end = x.many(0) * 4; k < end; k++) {
            d = mix(d, x.ofObject(k / 4, k % 4));
        }
        for (int k = 0, end = x.many(1) * 7; k < end; k++) {
            d = mix(d, x.ofSection(k / 7, k % 7));
        }
        for (int k = 0; k < 20 * 5; k++) {
            d = mix(d, x.ofName(k / 5, k % 5));
        }
        for (int k = 0, end = x.many(10) * 4; k < end; k++) {
            d = mix(d, x.fault(k / 4, k % 4));
        }
        for (int k = 0, end = x.many(9); k < end; k++) {
            d = mix(d, x.wordAt(k));
        }
        for (int library = 0, end = x.many(3); library < end; library++) {
            for (int what = 0; what <= 7; what++) {
                d = mix(d, x.ofLibrary(library, what));
            }
            d = mix(d, x.goes(library));
            for (int name = 0; name < 20; name++) {
                for (int what = 0; what <= 3; what++) {
                    d = mix(d, x.ofBinding(library, name, what));
                }
                d = mix(d, x.wouldBind(library, name));
            }
        }
        if (isLinked) {
            d = mix(d, x.sizeWith(10));
            for (int object = 0, end = x.many(0); object < end; object++) {
                d = mix(d, x.faultsWithout(object));
            }
        }
        return d;
    }

    private void promise30Digest() {
        LinkHarbour x = new LinkHarbour();
        check.due("30: of a new one", digestOf(x, false), x.digest());
        long d = 58133;
        for (int k = 0; k < 13; k++) {
            d = mix(d, 0);
        }
        for (int k = 0; k < 100; k++) {
            d = mix(d, k % 5 < 3 ? -1 : 0);
        }
        check.due("30: of a new one, by numbers", d, x.digest());
        LinkHarbour ahead = LibrariesTest.harbour();
        check.due("30: ahead of all links", digestOf(ahead, false), ahead.digest());
        LinkHarbour y = LibrariesTest.harbour();
        LibrariesTest.publish(y, 1, 2);
        LibrariesTest.publish(y, 2, 0);
        y.open(0, true);
        y.call(0, 5);
        long before = y.digest();
        check.due("30: with LIBRARIES", digestOf(y, true), before);
        LinkHarbour u = LibrariesTest.harbour();
        LibrariesTest.publish(u, 1, 2);
        u.item(1, 2);
        u.link(9, false);
        check.due("30: with FAULTS", digestOf(u, true), u.digest());
        check.due("30: the same again", u.digest(), u.digest());
        check.due("30: another one", 1, u.digest() != before ? 1 : 0);
        for (int length = 1; length <= 14; length++) {
            LinkHarbour z = new LinkHarbour();
            z.object();
            z.section(0, 1, true);
            z.define(0, 0, false, false);
            z.fill(0, length);
            z.jump(0, 0, false);
            z.item(1, 0);
            z.link(0, false);
            check.due("30: sizeWith of 10, over " + length, digestOf(z, true), z.digest());
        }
    }

    private void nothingIsChanged() {
        LinkHarbour x = LibrariesTest.harbour();
        LibrariesTest.publish(x, 1, 2);
        LibrariesTest.publish(x, 2, 0);
        x.open(0, true);
        x.call(0, 5);
        x.fill(1, 3);
        long before = x.digest();
        x.sizeWith(1);
        x.faultsWithout(1);
        x.goes(0);
        x.wouldBind(0, 5);
        x.wouldBind(0, 6);
        check.due("26 to 30: nothing is changed", before, x.digest());
        check.illegalState("21: call(0, 7)", () -> x.call(0, 7));
        check.illegalState("20: close(1)", () -> x.close(1));
        check.illegalArgument("18: publish(4)", () -> x.publish(4));
        check.illegalArgument("13: link(20)", () -> x.link(20, false));
        check.illegalArgument("12: bounds(5, 10000)", () -> x.bounds(5, 10000));
        check.illegalArgument("12: bounds(0, 5)", () -> x.bounds(0, 5));
        check.due("a call that throws changes nothing", before, x.digest());
        check.due("nor REACH", 40, x.bounds(40, 9999));
    }
}
