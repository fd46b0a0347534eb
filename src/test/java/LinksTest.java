/** Promises 12 to 17: how objects are linked, and what can be asked about a link. */
public final class LinksTest {
    private final Check check = new Check("LinksTest");

    public static void main(String[] args) {
        LinksTest test = new LinksTest();
        test.promise12Bounds();
        test.promise13Arguments();
        test.promise13Taken();
        test.promise13Definitions();
        test.promise13Reached();
        test.promise13Shared();
        test.promise13Layout();
        test.promise13Jumps();
        test.promise13JumpsGrowTogether();
        test.promise14OfSection();
        test.promise15OfName();
        test.promise16Fault();
        test.promise16Order();
        test.promise17WordAt();
        test.check.end();
    }

    private static LinkHarbour withObjects(int count) {
        LinkHarbour x = new LinkHarbour();
        for (int k = 0; k < count; k++) {
            x.object();
        }
        return x;
    }

    /** One SECTION for each OBJECT, with the same number; that of OBJECT 0 is KEPT and defines NAME 0. */
    private static LinkHarbour withSections(int count) {
        LinkHarbour x = withObjects(count);
        for (int k = 0; k < count; k++) {
            x.section(k, 1, k == 0);
        }
        x.define(0, 0, false, false);
        return x;
    }

    private void promise12Bounds() {
        LinkHarbour x = new LinkHarbour();
        check.due("12: REACH at first", 40, x.bounds(500, 9999));
        check.due("12: REACH before", 500, x.bounds(1, 0));
        check.due("12: REACH before, again", 1, x.bounds(7, 7));
        for (int reach : new int[] {0, -1, 501, Integer.MAX_VALUE, Integer.MIN_VALUE}) {
            check.illegalArgument("12: bounds(" + reach + ", 1)", () -> x.bounds(reach, 1));
        }
        for (int limit : new int[] {-1, 10000, Integer.MAX_VALUE, Integer.MIN_VALUE}) {
            check.illegalArgument("12: bounds(1, " + limit + ")", () -> x.bounds(1, limit));
        }
        check.due("12: REACH after refused ones", 7, x.bounds(40, 0));
        LinkHarbour y = withSections(1);
        y.word(0, 0, -1, false);
        y.item(1, 0);
        y.bounds(40, 0);
        check.due("12: a word is at most LIMIT", 0, y.link(0, false));
        y.word(0, 0, 0, false);
        check.due("12: a word is above LIMIT", 1, y.link(0, false));
        y.bounds(40, 1);
        check.due("12: bounds changes no link", 1, y.many(10));
        check.due("12: a greater LIMIT", 0, y.link(0, false));
    }

    private void promise13Arguments() {
        LinkHarbour x = withSections(1);
        x.item(1, 0);
        for (int entry : new int[] {-1, 20, Integer.MAX_VALUE, Integer.MIN_VALUE}) {
            check.illegalArgument("13: link(" + entry + ")", () -> x.link(entry, true));
        }
        check.illegalState("13: a refused link is none", () -> x.sizeWith(1));
        check.due("13: link(19)", 1, x.link(19, false));
        check.due("13: link(0)", 0, x.link(0, false));
        check.due("13: a link without all", 1, new LinkHarbour().link(0, true));
        check.illegalArgument("13: link(20) behind one", () -> x.link(20, true));
        check.due("13: changes nothing", 0, x.many(10));
    }

    private void promise13Taken() {
        LinkHarbour x = withSections(8);
        x.word(0, 1, 0, true);
        x.word(0, 2, 0, false);
        x.define(1, 1, false, false);
        x.define(2, 2, true, false);
        x.common(3, 2, 1, 1);
        x.define(4, 2, false, false);
        x.define(5, 0, false, false);
        x.item(1, 0);
        x.item(2 + 4 + 8 + 16 + 32, 1);
        check.due("13: no FAULT", 0, x.link(0, false));
        check.due("13: a WEAK REFERENCE draws nothing", -1, x.ofObject(1, 3));
        check.due("13: a WEAK definition is not drawn", -1, x.ofObject(2, 3));
        check.due("13: a COMMON one is", 1, x.ofObject(3, 3));
        check.due("13: what is defined is not WANTED", -1, x.ofObject(4, 3));
        check.due("13: nor the ENTRY, if it is defined", -1, x.ofObject(5, 3));
        x.clear();
        x.item(4, 0);
        x.item(1 + 8 + 16, 1);
        check.due("13: the ENTRY is WANTED", 0, x.link(0, false));
        check.due("13: and TAKEN behind the PLAIN one", 1, x.ofObject(0, 3));
        check.due("13: a WEAK definition is enough not to want", -1, x.ofObject(3, 3));
        check.due("13: so that this stays", 2, x.ofName(2, 0));
        x.clear();
        x.item(8 + 4 + 1, 0);
        x.item(16, 0);
        x.link(0, false);
        check.due("13: an OBJECT that is in no ITEM is not linked", -1, x.ofObject(1, 3));
        check.due("13: PLAIN ones by numbers", 1, x.ofObject(2, 3));
        check.due("13: ITEM by ITEM", 3, x.ofObject(4, 3));
        x.clear();
        x.link(0, false);
        check.due("13: nothing is TAKEN without ITEMS", 0, x.many(7));
        x.word(0, 5, 0, false);
        x.define(4, 5, false, false);
        x.item(1, 0);
        x.item(8 + 16, 1);
        x.link(0, false);
        check.due("13: an OBJECT can want two: one", 1, x.ofObject(3, 3));
        check.due("13: an OBJECT can want two: the other", 2, x.ofObject(4, 3));
    }

    private void promise13Definitions() {
        LinkHarbour x = withSections(5);
        x.fill(0, 3);
        x.define(1, 5, true, false);
        x.define(2, 5, true, false);
        x.define(3, 5, false, false);
        x.common(4, 5, 9, 2);
        x.item(4, 0);
        x.item(3, 0);
        x.link(0, true);
        check.due("13: WEAK", 2, x.ofName(5, 0));
        check.due("13: of which the OBJECT was TAKEN first", 2, x.ofName(5, 1));
        x.item(16, 0);
        x.link(0, true);
        check.due("13: COMMON goes ahead of WEAK", 1, x.ofName(5, 0));
        check.due("13: COMMON has no OBJECT", -1, x.ofName(5, 1));
        x.item(8, 0);
        check.due("13: STRONG beside COMMON and WEAK is no FAULT", 0, x.link(0, true));
        check.due("13: STRONG goes ahead of COMMON", 0, x.ofName(5, 0));
        check.due("13: and has its OBJECT", 3, x.ofName(5, 1));

        LinkHarbour y = withSections(4);
        for (int k = 1; k < 4; k++) {
            y.define(k, 6, false, false);
        }
        y.word(3, 0, 0, false);
        y.item(8, 0);
        y.item(7, 0);
        check.due("13: FAULT 1 once for a NAME", 1, y.link(0, false));
        check.due("13: FAULT 1", 1, y.fault(0, 0));
        check.due("13: the first one TAKEN of several STRONG ones", 3, y.ofName(6, 1));
        y.section(1, 1, false);
        y.define(4, 0, false, false);
        check.due("13: FAULT 1 of NAME 0 too", 2, y.link(0, false));
        check.due("13: that NAME goes ahead", 0, y.fault(0, 1));

        LinkHarbour z = withObjects(3);
        z.common(0, 0, 3, 8);
        z.common(1, 0, 9, 2);
        z.common(2, 0, 4, 4);
        z.section(0, 1, true);
        z.fill(0, 2);
        z.item(7, 0);
        z.link(0, false);
        check.due("13: the greatest ALIGN", 8, z.ofName(0, 2));
        check.due("13: the greatest size", 17, z.many(9));
        z.clear();
        z.item(6, 0);
        z.link(0, false);
        check.due("13: of those that are TAKEN", 10 + 3, z.many(9));
    }

    private void promise13Reached() {
        LinkHarbour x = withObjects(2);
        for (int k = 0; k < 7; k++) {
            x.section(k < 6 ? 0 : 1, 1, k == 1 || k == 6);
        }
        x.define(0, 0, false, true);
        x.word(0, 2, 0, false);
        x.define(2, 2, false, false);
        x.jump(2, 3, true);
        x.define(3, 3, true, true);
        x.word(3, 0, 0, false);
        x.define(4, 4, false, false);
        x.common(0, 5, 3, 1);
        x.item(1, 0);
        check.due("13: no FAULT", 0, x.link(0, false));
        check.due("13: the one of the ENTRY, also if HIDDEN", 1, x.ofSection(0, 3));
        check.due("13: a KEPT one", 1, x.ofSection(1, 3));
        check.due("13: by a WORD", 1, x.ofSection(2, 3));
        check.due("13: by a WEAK JUMP, and further", 1, x.ofSection(3, 3));
        check.due("13: not without a REFERENCE", 0, x.ofSection(4, 3));
        check.due("13: not without a NAME", 0, x.ofSection(5, 3));
        check.due("13: not a KEPT one of an OBJECT that is not TAKEN", 0, x.ofSection(6, 3));
        check.due("13: not a COMMON one without a REFERENCE", -1, x.ofName(5, 2));
        check.due("13: how many", 4, x.many(8));
        x.link(4, false);
        check.due("13: not the one of NAME 0, as it is not the ENTRY", 0, x.ofSection(0, 3));
        check.due("13: but that of NAME 4", 1, x.ofSection(4, 3));
        x.link(5, false);
        check.due("13: a COMMON ENTRY is REACHED itself", 1, x.ofName(5, 2));
        check.due("13: SIZE of that", 4, x.many(9));
        x.word(1, 5, 0, true);
        x.link(0, false);
        check.due("13: a COMMON one by a REFERENCE", 1, x.ofName(5, 4));
        check.due("13: behind the SECTIONS", 6, x.ofName(5, 2));
    }

    private void promise13Shared() {
        LinkHarbour x = withSections(6);
        x.define(1, 1, false, false);
        x.define(2, 2, true, false);
        x.define(3, 3, false, true);
        x.define(4, 4, true, true);
        x.define(5, 2, true, false);
        x.fill(5, 5);
        x.common(0, 6, 2, 1);
        x.item(63, 0);
        check.due("13: no FAULT", 0, x.link(0, true));
        check.due("13: SHARED: STRONG, not HIDDEN", 1, x.ofSection(1, 3));
        check.due("13: SHARED: WEAK, not HIDDEN", 1, x.ofSection(2, 3));
        check.due("13: SHARED: HIDDEN", 0, x.ofSection(3, 3));
        check.due("13: SHARED: WEAK, HIDDEN", 0, x.ofSection(4, 3));
        check.due("13: SHARED: not the DEFINITION", 0, x.ofSection(5, 3));
        check.due("13: SHARED: COMMON", 1, x.ofName(6, 2));
        LinkHarbour u = withObjects(1);
        u.section(0, 1, false);
        u.define(0, 0, false, false);
        u.item(1, 0);
        u.link(1, true);
        check.due("13: SHARED: NAME 0, though it is not the ENTRY", 1, u.ofSection(0, 3));
        x.link(0, false);
        check.due("13: not SHARED", 1, x.many(8));
        check.due("13: not SHARED: COMMON", -1, x.ofName(6, 2));

        LinkHarbour y = withObjects(2);
        y.section(0, 1, false);
        y.section(1, 1, false);
        y.define(0, 1, true, true);
        y.define(1, 1, false, false);
        y.section(0, 1, true);
        y.define(2, 0, false, false);
        y.item(3, 0);
        y.link(0, true);
        check.due("13: a STRONG one behind a HIDDEN WEAK one is not HIDDEN", 1, y.ofSection(1, 3));

        LinkHarbour z = withSections(2);
        z.word(0, 7, 9, false);
        z.word(0, 8, -9, true);
        z.jump(0, 9, false);
        z.jump(0, 9, true);
        z.word(1, 10, 0, false);
        z.item(3, 0);
        check.due("13: SHARED: IMPORTS are no FAULTS", 0, z.link(0, true));
        check.due("13: IMPORTS, each NAME once", 3, z.many(12));
        check.due("13: a WEAK one too", 1, z.ofName(8, 3));
        check.due("13: not of a SECTION that is not REACHED", 0, z.ofName(10, 3));
        check.due("13: an IMPORT's word is what is ADDED", 9, z.wordAt(1));
        check.due("13: also below 0", -9, z.wordAt(2));
        check.due("13: a JUMP to an IMPORT stands for 0", -5, z.wordAt(4));
        z.bounds(40, 8);
        check.due("13: LIMIT is not for IMPORTS", 0, z.link(0, true));
        check.due("13: not SHARED: 3 and 4 and 4 and 3", 4, z.link(0, false));
        check.due("13: not SHARED: no IMPORTS", 0, z.many(12));
    }

    private void promise13Layout() {
        LinkHarbour x = withObjects(3);
        x.section(1, 4, true);
        x.section(0, 8, true);
        x.section(1, 2, true);
        x.section(2, 16, true);
        x.fill(0, 2);
        x.fill(1, 3);
        x.fill(2, 5);
        x.common(0, 9, 2, 2);
        x.common(0, 3, 1, 16);
        x.word(0, 3, 0, false);
        x.word(0, 9, 0, false);
        x.item(2, 0);
        x.item(5, 0);
        x.link(3, false);
        check.due("13: the first one TAKEN, from 1 on", 4, x.ofSection(0, 4));
        check.due("13: by numbers in it", 8, x.ofSection(2, 4));
        check.due("13: the next one TAKEN", 16, x.ofSection(1, 4));
        check.due("13: an empty one has an address", 32, x.ofSection(3, 4));
        check.due("13: COMMON ones by NAMES", 32, x.ofName(3, 2));
        check.due("13: likewise", 34, x.ofName(9, 2));
        check.due("13: SIZE", 36, x.many(9));
        check.due("13: SIZE without any", 1, sizeOf(new LinkHarbour()));
        LinkHarbour y = withObjects(1);
        y.section(0, 16, true);
        y.item(1, 0);
        check.due("13: SIZE with an empty one alone", 16, sizeOf(y));
    }

    private static int sizeOf(LinkHarbour x) {
        x.link(0, false);
        return x.many(9);
    }

    private void promise13Jumps() {
        LinkHarbour x = withSections(2);
        x.jump(0, 1, false);
        x.fill(0, 20);
        x.fill(0, 20);
        x.define(1, 1, false, false);
        x.item(3, 0);
        x.link(0, false);
        check.due("13: just REACHES ahead", 0, x.many(11));
        check.due("13: SHORT: -1", -1, x.wordAt(1));
        check.due("13: SHORT: how far", 40, x.wordAt(2));
        x.fill(0, 1);
        x.link(0, false);
        check.due("13: just does not", 1, x.many(11));
        check.due("13: LONG: -2", -2, x.wordAt(1));
        check.due("13: LONG: the address", 47, x.wordAt(2));
        check.due("13: LONG: 0", 0, x.wordAt(3));

        LinkHarbour y = withSections(1);
        y.fill(0, 38);
        y.jump(0, 0, false);
        y.item(1, 0);
        y.link(0, false);
        check.due("13: just REACHES back", 0, y.many(11));
        check.due("13: SHORT: how far back", -40, y.wordAt(40));
        y.bounds(39, 9999);
        y.link(0, false);
        check.due("13: just does not", 1, y.many(11));
        check.due("13: LONG: the address of what is ahead", 1, y.wordAt(40));

        LinkHarbour z = withSections(1);
        z.jump(0, 5, true);
        z.item(1, 0);
        z.bounds(3, 9999);
        z.link(0, false);
        check.due("13: without a DEFINITION it REACHES 0", 0, z.many(11));
        check.due("13: SHORT, to 0", -3, z.wordAt(2));
        z.bounds(2, 9999);
        z.link(0, false);
        check.due("13: or not", 1, z.many(11));
        check.due("13: LONG, to 0", 0, z.wordAt(2));
    }

    private void promise13JumpsGrowTogether() {
        // The second JUMP is in REACH until the first one grows between it and its NAME.
        LinkHarbour x = withSections(1);
        x.jump(0, 1, false);
        x.fill(0, 6);
        x.jump(0, 0, false);
        x.fill(0, 9);
        x.section(0, 1, true);
        x.define(1, 1, false, false);
        x.item(1, 0);
        x.bounds(16, 9999);
        x.link(0, false);
        check.due("13: one is LONG, and the other REACHES nevertheless", 1, x.ofSection(0, 6));
        x.bounds(12, 9999);
        x.link(0, false);
        check.due("13: a LONG one lengthens what the other has to REACH", 2, x.ofSection(0, 6));
        check.due("13: all words", 25, x.ofSection(0, 5));

        // Grown, the second JUMP stands nearer to its NAME, as the gap ahead of that one is less.
        LinkHarbour y = withObjects(1);
        y.section(0, 1, true);
        y.section(0, 16, true);
        y.define(0, 0, false, false);
        y.jump(0, 2, true);
        y.jump(0, 1, false);
        y.fill(1, 2);
        y.define(1, 1, false, false);
        y.item(1, 0);
        y.bounds(12, 9999);
        y.link(0, false);
        check.due("13: one does not REACH over the gap", 1, y.ofSection(0, 6));
        check.due("13: SHORT to 0", -1, y.wordAt(1));
        check.due("13: LONG, and it stays so", -2, y.wordAt(3));
        check.due("13: LONG to what is behind the gap", 18, y.wordAt(4));

        // The first JUMP moves the second one and its NAME, and so not how far these are apart.
        LinkHarbour z = withObjects(1);
        z.section(0, 1, true);
        z.section(0, 1, true);
        z.jump(0, 1, false);
        z.define(0, 0, false, false);
        z.fill(0, 8);
        z.jump(0, 0, false);
        z.define(1, 1, false, false);
        z.item(1, 0);
        z.bounds(10, 9999);
        z.link(0, false);
        check.due("13: a round judges by the layout ahead of it", 0, z.many(11));
        z.fill(0, 1);
        z.link(0, false);
        check.due("13: also as one grows", 1, z.many(11));
        check.due("13: the other one is SHORT", -1, z.wordAt(14));
        check.due("13: and REACHES back", -10, z.wordAt(15));
    }

    private void promise14OfSection() {
        LinkHarbour x = withObjects(2);
        x.section(0, 2, true);
        x.section(1, 8, false);
        check.due("14: OBJECT", 1, x.ofSection(1, 0));
        check.due("14: ALIGN", 8, x.ofSection(1, 1));
        check.due("14: not REACHED ahead of all links", 0, x.ofSection(0, 3));
        check.due("14: no address ahead of all links", -1, x.ofSection(0, 4));
        check.due("14: no words ahead of all links", 0, x.ofSection(0, 5));
        check.due("14: no LONG JUMPS ahead of all links", 0, x.ofSection(0, 6));
        x.jump(0, 5, true);
        x.jump(0, 5, true);
        x.fill(1, 4);
        x.bounds(4, 9999);
        x.item(3, 0);
        x.link(0, false);
        check.due("14: REACHED", 1, x.ofSection(0, 3));
        check.due("14: address", 2, x.ofSection(0, 4));
        check.due("14: words", 7, x.ofSection(0, 5));
        check.due("14: LONG JUMPS", 1, x.ofSection(0, 6));
        check.due("14: not REACHED", 0, x.ofSection(1, 3));
        check.due("14: no address", -1, x.ofSection(1, 4));
        check.due("14: no words", 0, x.ofSection(1, 5));
        x.fill(0, 9);
        x.section(0, 1, true);
        check.due("14: PIECES as there are now", 3, x.ofSection(0, 2));
        check.due("14: words as it was then", 7, x.ofSection(0, 5));
        check.due("14: a later one is not REACHED", 0, x.ofSection(2, 3));
        check.due("14: a later one has no address", -1, x.ofSection(2, 4));
        x.clear();
        x.link(0, false);
        check.due("14: not TAKEN: no LONG JUMPS", 0, x.ofSection(0, 6));
        check.due("14: not TAKEN: no words", 0, x.ofSection(0, 5));
        for (int section : new int[] {-1, 3, 24, Integer.MAX_VALUE, Integer.MIN_VALUE}) {
            check.outOfBounds("14: ofSection(" + section + ", 0)", () -> x.ofSection(section, 0));
            check.outOfBounds("14: ofSection(" + section + ", 7)", () -> x.ofSection(section, 7));
        }
        for (int what : new int[] {-1, 7, Integer.MAX_VALUE, Integer.MIN_VALUE}) {
            check.illegalArgument("14: ofSection(0, " + what + ")", () -> x.ofSection(0, what));
        }
    }

    private void promise15OfName() {
        LinkHarbour x = withSections(2);
        for (int what = 0; what <= 4; what++) {
            check.due("15: ahead of all links: " + what, what < 3 ? -1 : 0, x.ofName(0, what));
        }
        x.fill(0, 2);
        x.define(1, 1, true, false);
        x.word(1, 1, 0, false);
        x.word(0, 2, 0, true);
        x.jump(0, 2, true);
        x.word(1, 2, 0, true);
        x.common(1, 3, 2, 4);
        x.define(0, 19, false, true);
        x.item(3, 0);
        x.link(0, false);
        check.due("15: STRONG", 0, x.ofName(0, 0));
        check.due("15: its OBJECT", 0, x.ofName(0, 1));
        check.due("15: its address", 1, x.ofName(0, 2));
        check.due("15: address behind PIECES", 6, x.ofName(19, 2));
        check.due("15: WEAK", 2, x.ofName(1, 0));
        check.due("15: its OBJECT", 1, x.ofName(1, 1));
        check.due("15: not REACHED", -1, x.ofName(1, 2));
        check.due("15: COMMON", 1, x.ofName(3, 0));
        check.due("15: COMMON without OBJECT", -1, x.ofName(3, 1));
        check.due("15: COMMON, not REACHED", -1, x.ofName(3, 2));
        check.due("15: no DEFINITION", -1, x.ofName(2, 0));
        check.due("15: no DEFINITION, no OBJECT", -1, x.ofName(2, 1));
        check.due("15: no DEFINITION, no address", -1, x.ofName(2, 2));
        check.due("15: no IMPORT", 0, x.ofName(2, 3));
        check.due("15: REFERENCES in what was REACHED, WEAK ones too", 2, x.ofName(2, 4));
        check.due("15: REFERENCES in what was not", 0, x.ofName(1, 4));
        x.link(0, true);
        check.due("15: SHARED: IMPORT", 1, x.ofName(2, 3));
        check.due("15: SHARED: no IMPORT", 0, x.ofName(1, 3));
        check.due("15: SHARED: REFERENCES", 3, x.ofName(2, 4));
        check.due("15: SHARED: COMMON", 8, x.ofName(3, 2));
        x.word(0, 2, 0, true);
        x.common(0, 2, 1, 1);
        check.due("15: as it was then: no DEFINITION", -1, x.ofName(2, 0));
        check.due("15: as it was then: REFERENCES", 3, x.ofName(2, 4));
        x.clear();
        x.link(0, false);
        for (int what = 0; what <= 4; what++) {
            check.due("15: of a link of nothing: " + what, what < 3 ? -1 : 0, x.ofName(3, what));
        }
        x.word(0, 0, 0, false);
        x.item(3, 0);
        x.link(0, false);
        x.link(0, false);
        check.due("15: REFERENCES of the latest link alone", 1, x.ofName(0, 4));
        for (int name : new int[] {-1, 20, Integer.MAX_VALUE, Integer.MIN_VALUE}) {
            check.illegalArgument("15: ofName(" + name + ", 0)", () -> x.ofName(name, 0));
        }
        for (int what : new int[] {-1, 5, Integer.MAX_VALUE, Integer.MIN_VALUE}) {
            check.illegalArgument("15: ofName(0, " + what + ")", () -> x.ofName(0, what));
        }
    }

    private void faultDue(LinkHarbour x, int k, int which, int name, int section, int place) {
        check.due("16: FAULT " + k + ": which one", which, x.fault(k, 0));
        check.due("16: FAULT " + k + ": its NAME", name, x.fault(k, 1));
        check.due("16: FAULT " + k + ": its SECTION", section, x.fault(k, 2));
        check.due("16: FAULT " + k + ": the place of its PIECE", place, x.fault(k, 3));
    }

    private void promise16Fault() {
        LinkHarbour x = new LinkHarbour();
        check.outOfBounds("16: ahead of all links", () -> x.fault(0, 0));
        x.link(4, false);
        faultDue(x, 0, 2, 4, -1, -1);
        for (int k : new int[] {-1, 1, Integer.MAX_VALUE, Integer.MIN_VALUE}) {
            check.outOfBounds("16: fault(" + k + ", 0)", () -> x.fault(k, 0));
            check.outOfBounds("16: fault(" + k + ", 9)", () -> x.fault(k, 9));
        }
        for (int what : new int[] {-1, 4, Integer.MAX_VALUE, Integer.MIN_VALUE}) {
            check.illegalArgument("16: fault(0, " + what + ")", () -> x.fault(0, what));
        }
        LinkHarbour y = withSections(1);
        y.item(1, 0);
        y.link(0, false);
        check.outOfBounds("16: a link without FAULTS", () -> y.fault(0, 0));
        y.jump(0, 3, true);
        y.word(0, 0, -1, true);
        y.word(0, 3, 0, true);
        check.due("16: the edge of 0, and WEAK ones", 0, y.link(0, false));
        y.word(0, 0, -2, false);
        y.word(0, 3, -1, true);
        check.due("16: below 0, and ADDED alone", 2, y.link(0, false));
        faultDue(y, 0, 4, 0, 0, 3);
        faultDue(y, 1, 4, 3, 0, 4);
    }

    private void promise16Order() {
        LinkHarbour x = withObjects(3);
        x.section(1, 1, true);
        x.section(0, 1, true);
        x.section(1, 1, true);
        x.section(2, 1, false);
        x.define(0, 9, false, false);
        x.define(1, 9, false, false);
        x.define(0, 7, false, false);
        x.define(1, 7, false, false);
        x.define(0, 8, false, false);
        x.define(1, 8, true, false);
        x.fill(0, 1);
        x.jump(0, 5, false);
        x.word(0, 6, -1, false);
        x.word(1, 6, 0, false);
        x.word(2, 9, 50, false);
        x.word(3, 6, 0, false);
        x.item(2, 0);
        x.item(5, 0);
        x.bounds(40, 50);
        check.due("16: how many", 8, x.link(4, false));
        faultDue(x, 0, 1, 7, -1, -1);
        faultDue(x, 1, 1, 9, -1, -1);
        faultDue(x, 2, 2, 4, -1, -1);
        faultDue(x, 3, 3, 5, 0, 1);
        faultDue(x, 4, 3, 6, 0, 2);
        faultDue(x, 5, 4, 6, 0, 2);
        faultDue(x, 6, 4, 9, 2, 0);
        faultDue(x, 7, 3, 6, 1, 0);
        check.due("16: SHARED, 3 are none, nor 4 of IMPORTS", 4, x.link(4, true));
        faultDue(x, 3, 4, 9, 2, 0);
        x.fill(2, 1);
        check.due("16: of the latest link, also as all goes on", 4, x.fault(3, 0));
    }

    private void promise17WordAt() {
        LinkHarbour x = withObjects(1);
        check.outOfBounds("17: wordAt(0) ahead of all links", () -> x.wordAt(0));
        x.section(0, 4, true);
        x.section(0, 8, true);
        x.define(0, 0, false, false);
        x.word(0, 0, 3, false);
        x.fill(1, 2);
        x.word(1, 1, 50, true);
        x.common(0, 2, 2, 8);
        x.word(1, 2, 0, false);
        x.item(1, 0);
        x.link(0, false);
        int[] due = {0, 0, 0, 0, 7, 0, 0, 0, 0, 0, 50, 16, 0, 0, 0, 0, 0, 0};
        for (int address = 0; address < due.length; address++) {
            check.due("17: wordAt(" + address + ")", due[address], x.wordAt(address));
        }
        for (int address : new int[] {-1, due.length, due.length + 1, Integer.MAX_VALUE, Integer.MIN_VALUE}) {
            check.outOfBounds("17: wordAt(" + address + ")", () -> x.wordAt(address));
        }
        x.word(0, 0, 4, false);
        check.due("17: of the latest link", 0, x.wordAt(5));
        x.sizeWith(1);
        x.faultsWithout(0);
        check.due("17: not of what would be", 0, x.wordAt(5));
        x.link(0, false);
        check.due("17: of the one behind that", 8, x.wordAt(5));
        x.clear();
        x.link(0, false);
        check.due("17: a shorter one", 0, x.wordAt(0));
        check.outOfBounds("17: behind a shorter one", () -> x.wordAt(1));
        LinkHarbour y = withObjects(1);
        for (int s = 0; s < 24; s++) {
            y.section(0, 16, true);
            for (int k = 0; k < 7; k++) {
                y.fill(s, 40);
            }
            y.fill(s, 39);
        }
        for (int name = 0; name < 20; name++) {
            y.common(0, name, 33, 16);
        }
        y.item(1, 0);
        y.link(0, true);
        check.due("17: the greatest SIZE", 16 + 24 * 320 + 19 * 48 + 33, y.many(9));
        check.due("17: its last word", 0, y.wordAt(y.many(9) - 1));
    }
}
