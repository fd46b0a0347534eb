/**
 * Each exception that a call names: that it is thrown on each side of what is allowed, that it is the first one
 * named where several apply, and that the call has changed nothing.
 * 3. Libraries: "A method that throws an exception changes nothing." "If several exceptions apply, the one that is
 * named first is thrown."
 */
public final class RefusalsTest {
    private static final int[] NO_ALIGNS = {
        Harbours.LEAST, -16, -8, -4, -2, -1, 0, 3, 5, 6, 7, 9, 10, 12, 14, 15, 17, 18, 24, 31, 32, 64, 1 << 30,
        Harbours.MOST,
    };
    private static final int[] NO_NAMES = Harbours.outside(0, 19);

    private final Check check = new Check("RefusalsTest");
    private final Refusals refusals = new Refusals(check);

    public static void main(String[] args) {
        RefusalsTest test = new RefusalsTest();
        test.objects();
        test.pieces();
        test.definitions();
        test.items();
        test.links();
        test.publishing();
        test.libraries();
        test.wouldBe();
        test.check.end();
    }

    private void objects() {
        objectIfThereAre10();
        sectionOfNoObject();
        sectionOfNoAlign();
        sectionIfThereAre24();
        sectionFirstNamed();
        ofObjectOfNoObject();
        ofObjectOfNoWhat();
        ofObjectFirstNamed();
    }

    private void pieces() {
        fillOfNoSection();
        fillOfNoWords();
        fillIfItHas8();
        fillFirstNamed();
        wordOfNoSection();
        wordOfNoNameOrAdded();
        wordIfItHas8();
        wordFirstNamed();
        jumpOfNoSection();
        jumpOfNoName();
        jumpIfItHas8();
        jumpFirstNamed();
    }

    private void definitions() {
        defineInNoSection();
        defineNoName();
        defineAlready();
        defineFirstNamed();
        commonOfNoObject();
        commonOfNoNameSizeOrAlign();
        commonAlready();
        commonFirstNamed();
    }

    private void items() {
        itemOfNoObjectsOrKind();
        itemIfThereAre8OrInAnother();
        itemFirstNamed();
    }

    private void links() {
        boundsOutside();
        linkOfNoName();
        ofSectionOfNoSection();
        ofSectionOfNoWhat();
        ofSectionFirstNamed();
        ofNameOfNoNameOrWhat();
        faultOfNoFault();
        faultOfNoWhat();
        faultFirstNamed();
        wordAtNoAddress();
    }

    private void publishing() {
        publishNoNeeds();
        publishIfThereAre6();
        publishWithoutALink();
        publishNotShared();
        publishWithFaults();
        publishFirstNamed();
    }

    private void libraries() {
        openNoLibrary();
        closeNoLibrary();
        closeIfTheCountIs0();
        closeFirstNamed();
        callFromNoLibrary();
        callNoName();
        callNotLoadedOrNoImport();
        callFirstNamed();
        ofBindingOfNoLibrary();
        ofBindingOfNoNameOrWhat();
        ofBindingFirstNamed();
        ofLibraryOfNoLibrary();
        ofLibraryOfNoWhat();
        ofLibraryFirstNamed();
        manyOfNoWhat();
    }

    private void wouldBe() {
        sizeWithNoReach();
        sizeWithWithoutALink();
        sizeWithFirstNamed();
        faultsWithoutNoObject();
        faultsWithoutALink();
        faultsWithoutFirstNamed();
        goesOfNoLibrary();
        wouldBindOfNoLibrary();
        wouldBindOfNoName();
        wouldBindFirstNamed();
    }

    /**
     * A harbour in use: 5 OBJECTS, 5 SECTIONS, 3 ITEMS and 3 LIBRARIES, of which 0 NEEDS 1, is opened, and is BOUND
     * to 1 with NAME 1. The latest link is not SHARED, has FAULTS and a LONG JUMP, and there is more now than it had;
     * its JUMP and its WORDS stand at the very edge of REACH and of LIMIT.
     */
    private static LinkHarbour used() {
        LinkHarbour x = Harbours.withImports(2, 2, 0, 0);
        x.open(0, false);
        x.call(0, 1);
        x.object();
        x.section(2, 4, true);
        x.jump(2, 0, false);
        x.jump(2, 0, false);
        x.word(2, 2, 3, true);
        x.word(2, 2, 4, true);
        x.word(2, 7, -1, false);
        x.common(2, 2, 7, 8);
        x.object();
        x.section(3, 1, false);
        x.define(3, 3, true, true);
        x.define(3, 7, true, false);
        x.item(4, 1);
        x.item(8, 2);
        x.bounds(5, 19);
        x.clear();
        x.item(2, 0);
        x.item(4, 0);
        x.item(8, 2);
        x.link(0, false);
        x.object();
        x.section(3, 2, false);
        x.fill(2, 3);
        return x;
    }

    private static LinkHarbour fresh() {
        return new LinkHarbour();
    }

    private static LinkHarbour ofTenObjects() {
        LinkHarbour x = Harbours.withObjects(10);
        x.section(9, 1, true);
        x.item(1 << 9, 0);
        x.link(0, true);
        return x;
    }

    /** 24 SECTIONS, of which the last one has 8 PIECES and defines all NAMES of OBJECT 1 but 18, which is COMMON. */
    private static LinkHarbour full() {
        LinkHarbour x = Harbours.withObjects(2);
        for (int k = 0; k < 24; k++) {
            x.section(k / 12, 1 << k % 5, k % 3 == 0);
        }
        for (int k = 0; k < 8; k++) {
            x.fill(23, 1 + k);
            if (k != 7) {
                x.word(0, k, k, false);
            }
        }
        for (int name = 0; name < 20; name++) {
            if (name != 18) {
                x.define(23, name, name % 2 == 0, name % 4 == 1);
            }
        }
        x.common(1, 18, 5, 2);
        x.item(3, 0);
        x.link(0, true);
        return x;
    }

    /** 9 OBJECTS, of which 0 to 7 are in 8 ITEMS. */
    private static LinkHarbour ofEightItems() {
        LinkHarbour x = Harbours.withObjectsAndSections(9);
        x.define(8, 0, false, false);
        x.define(3, 1, false, false);
        for (int k = 0; k < 8; k++) {
            x.item(1 << k, k % 3);
        }
        x.link(0, true);
        return x;
    }

    private static LinkHarbour ofSixLibraries() {
        return Harbours.withLibraries(2, 4, 8, 16, 32, 31);
    }

    /** Promise 2: "Throws `IllegalStateException` if there are 10" */
    private void objectIfThereAre10() {
        refusals.illegalState("2: the 11th object()", RefusalsTest::ofTenObjects, LinkHarbour::object);
        refusals.illegalState("2: the 11th object() and nothing else", () -> Harbours.withObjects(10),
                LinkHarbour::object);
        check.due("2: the 10th object() is no such one", 9, Harbours.withObjects(9).object());
    }

    /** Promise 3: "Throws `IndexOutOfBoundsException` if there is no such OBJECT" */
    private void sectionOfNoObject() {
        for (int object : Harbours.outside(0, 4)) {
            refusals.outOfBounds("3: section(" + object + ")", RefusalsTest::used, x -> x.section(object, 1, true));
        }
        for (int object : Harbours.outside(0, 9)) {
            refusals.outOfBounds("3: section(" + object + ") of 10", RefusalsTest::ofTenObjects,
                    x -> x.section(object, 1, true));
        }
        refusals.outOfBounds("3: section(0) of none", RefusalsTest::fresh, x -> x.section(0, 1, true));
    }

    /** Promise 3: "Throws `IllegalArgumentException` if align is no ALIGN" */
    private void sectionOfNoAlign() {
        for (int align : NO_ALIGNS) {
            refusals.illegalArgument("3: ALIGN " + align, RefusalsTest::used, x -> x.section(4, align, true));
        }
    }

    /** Promise 3: "Throws `IllegalStateException` if there are 24" */
    private void sectionIfThereAre24() {
        refusals.illegalState("3: the 25th section()", RefusalsTest::full, x -> x.section(0, 1, false));
        refusals.illegalState("3: the 25th section() of one OBJECT", () -> Harbours.withSections(24),
                x -> x.section(0, 16, true));
        check.due("3: the 24th section() is no such one", 23, Harbours.withSections(23).section(0, 1, true));
    }

    /** Promise 3, 3. Libraries: "If several exceptions apply, the one that is named first is thrown." */
    private void sectionFirstNamed() {
        refusals.outOfBounds("3: no OBJECT, no ALIGN", RefusalsTest::used, x -> x.section(5, 3, true));
        refusals.outOfBounds("3: no OBJECT, 24", RefusalsTest::full, x -> x.section(2, 1, true));
        refusals.outOfBounds("3: no OBJECT, no ALIGN, 24", RefusalsTest::full, x -> x.section(-1, 0, true));
        refusals.illegalArgument("3: no ALIGN, 24", RefusalsTest::full, x -> x.section(1, 32, true));
    }

    /** Promise 11: "Throws `IndexOutOfBoundsException` if there is no such OBJECT" */
    private void ofObjectOfNoObject() {
        for (int object : Harbours.outside(0, 4)) {
            for (int what = 0; what <= 3; what++) {
                int of = what;
                refusals.outOfBounds("11: ofObject(" + object + ", " + what + ")", RefusalsTest::used,
                        x -> x.ofObject(object, of));
            }
        }
        refusals.outOfBounds("11: ofObject(10, 0) of 10", RefusalsTest::ofTenObjects, x -> x.ofObject(10, 0));
        refusals.outOfBounds("11: ofObject(0, 0) of none", RefusalsTest::fresh, x -> x.ofObject(0, 0));
    }

    /** Promise 11: "Throws `IllegalArgumentException` if what is not 0 to 3" */
    private void ofObjectOfNoWhat() {
        for (int what : Harbours.outside(0, 3)) {
            refusals.illegalArgument("11: ofObject(0, " + what + ")", RefusalsTest::used, x -> x.ofObject(0, what));
        }
    }

    /** Promise 11, 3. Libraries: "If several exceptions apply, the one that is named first is thrown." */
    private void ofObjectFirstNamed() {
        refusals.outOfBounds("11: no OBJECT, no what", RefusalsTest::used, x -> x.ofObject(5, 4));
        refusals.outOfBounds("11: no OBJECT, no what, below", RefusalsTest::used, x -> x.ofObject(-1, -1));
    }

    /** Promise 4: "Throws `IndexOutOfBoundsException` if there is no such SECTION" */
    private void fillOfNoSection() {
        for (int section : Harbours.outside(0, 4)) {
            refusals.outOfBounds("4: fill(" + section + ")", RefusalsTest::used, x -> x.fill(section, 1));
        }
        for (int section : Harbours.outside(0, 23)) {
            refusals.outOfBounds("4: fill(" + section + ") of 24", RefusalsTest::full, x -> x.fill(section, 1));
        }
        refusals.outOfBounds("4: fill(0) of none", RefusalsTest::fresh, x -> x.fill(0, 1));
    }

    /** Promise 4: "Throws `IllegalArgumentException` if words is not 1 to 40" */
    private void fillOfNoWords() {
        for (int words : Harbours.outside(1, 40)) {
            refusals.illegalArgument("4: fill(2, " + words + ")", RefusalsTest::used, x -> x.fill(2, words));
        }
    }

    /** Promise 4: "Throws `IllegalStateException` if it has 8" */
    private void fillIfItHas8() {
        refusals.illegalState("4: the 9th PIECE", RefusalsTest::full, x -> x.fill(23, 1));
        check.due("4: the 8th PIECE is no such one", 7, full().fill(0, 40));
    }

    /** Promise 4, 3. Libraries: "If several exceptions apply, the one that is named first is thrown." */
    private void fillFirstNamed() {
        refusals.outOfBounds("4: no SECTION, no words", RefusalsTest::full, x -> x.fill(24, 0));
        refusals.outOfBounds("4: no SECTION, no words, below", RefusalsTest::full, x -> x.fill(-1, 41));
        refusals.illegalArgument("4: no words, 8", RefusalsTest::full, x -> x.fill(23, 0));
        refusals.illegalArgument("4: too many words, 8", RefusalsTest::full, x -> x.fill(23, 41));
    }

    /** Promise 5: "Throws `IndexOutOfBoundsException` if there is no such SECTION" */
    private void wordOfNoSection() {
        for (int section : Harbours.outside(0, 4)) {
            refusals.outOfBounds("5: word(" + section + ")", RefusalsTest::used, x -> x.word(section, 1, 0, false));
        }
        refusals.outOfBounds("5: word(24) of 24", RefusalsTest::full, x -> x.word(24, 1, 0, false));
        refusals.outOfBounds("5: word(0) of none", RefusalsTest::fresh, x -> x.word(0, 1, 0, false));
    }

    /** Promise 5: "Throws `IllegalArgumentException` if name is not 0 to 19, or added is not -50 to 50" */
    private void wordOfNoNameOrAdded() {
        for (int name : NO_NAMES) {
            refusals.illegalArgument("5: NAME " + name, RefusalsTest::used, x -> x.word(2, name, 0, false));
        }
        for (int added : Harbours.outside(-50, 50)) {
            refusals.illegalArgument("5: ADDED " + added, RefusalsTest::used, x -> x.word(2, 9, added, false));
        }
        refusals.illegalArgument("5: both", RefusalsTest::used, x -> x.word(2, 20, 51, false));
    }

    /** Promise 5: "Throws `IllegalStateException` if it has 8" */
    private void wordIfItHas8() {
        refusals.illegalState("5: the 9th PIECE", RefusalsTest::full, x -> x.word(23, 0, 1, false));
        check.due("5: the 8th PIECE is no such one", 7, full().word(0, 0, 1, false));
    }

    /** Promise 5, 3. Libraries: "If several exceptions apply, the one that is named first is thrown." */
    private void wordFirstNamed() {
        refusals.outOfBounds("5: no SECTION, no NAME", RefusalsTest::full, x -> x.word(24, 20, 0, false));
        refusals.outOfBounds("5: no SECTION, no ADDED", RefusalsTest::full, x -> x.word(-1, 0, 51, false));
        refusals.illegalArgument("5: no NAME, 8", RefusalsTest::full, x -> x.word(23, -1, 0, false));
        refusals.illegalArgument("5: no ADDED, 8", RefusalsTest::full, x -> x.word(23, 0, -51, false));
    }

    /** Promise 6: "Throws `IndexOutOfBoundsException` if there is no such SECTION" */
    private void jumpOfNoSection() {
        for (int section : Harbours.outside(0, 4)) {
            refusals.outOfBounds("6: jump(" + section + ")", RefusalsTest::used, x -> x.jump(section, 1, false));
        }
        refusals.outOfBounds("6: jump(24) of 24", RefusalsTest::full, x -> x.jump(24, 1, false));
        refusals.outOfBounds("6: jump(0) of none", RefusalsTest::fresh, x -> x.jump(0, 1, false));
    }

    /** Promise 6: "Throws `IllegalArgumentException` if name is not 0 to 19" */
    private void jumpOfNoName() {
        for (int name : NO_NAMES) {
            refusals.illegalArgument("6: NAME " + name, RefusalsTest::used, x -> x.jump(2, name, false));
        }
    }

    /** Promise 6: "Throws `IllegalStateException` if it has 8" */
    private void jumpIfItHas8() {
        refusals.illegalState("6: the 9th PIECE", RefusalsTest::full, x -> x.jump(23, 0, false));
        check.due("6: the 8th PIECE is no such one", 7, full().jump(0, 0, false));
    }

    /** Promise 6, 3. Libraries: "If several exceptions apply, the one that is named first is thrown." */
    private void jumpFirstNamed() {
        refusals.outOfBounds("6: no SECTION, no NAME", RefusalsTest::full, x -> x.jump(24, 20, false));
        refusals.illegalArgument("6: no NAME, 8", RefusalsTest::full, x -> x.jump(23, 20, false));
        refusals.illegalArgument("6: no NAME below, 8", RefusalsTest::full, x -> x.jump(23, -1, false));
    }

    /** Promise 7: "Throws `IndexOutOfBoundsException` if there is no such SECTION" */
    private void defineInNoSection() {
        for (int section : Harbours.outside(0, 4)) {
            refusals.outOfBounds("7: define(" + section + ")", RefusalsTest::used,
                    x -> x.define(section, 9, false, false));
        }
        refusals.outOfBounds("7: define(24) of 24", RefusalsTest::full, x -> x.define(24, 9, false, false));
        refusals.outOfBounds("7: define(0) of none", RefusalsTest::fresh, x -> x.define(0, 9, false, false));
    }

    /** Promise 7: "Throws `IllegalArgumentException` if name is not 0 to 19" */
    private void defineNoName() {
        for (int name : NO_NAMES) {
            refusals.illegalArgument("7: NAME " + name, RefusalsTest::used, x -> x.define(2, name, false, true));
            refusals.illegalArgument("7: WEAK NAME " + name, RefusalsTest::used, x -> x.define(2, name, true, false));
        }
    }

    /** Promise 7: "Throws `IllegalStateException` if its OBJECT defines that already" */
    private void defineAlready() {
        refusals.illegalState("7: as COMMON", RefusalsTest::used, x -> x.define(2, 2, false, true));
        refusals.illegalState("7: as WEAK", RefusalsTest::used, x -> x.define(3, 7, false, true));
        refusals.illegalState("7: as STRONG", RefusalsTest::used, x -> x.define(0, 1, true, true));
        refusals.illegalState("7: as HIDDEN", RefusalsTest::used, x -> x.define(0, 0, false, false));
        refusals.illegalState("7: in another SECTION", RefusalsTest::used, x -> x.define(4, 3, false, false));
        for (int name = 0; name < 20; name++) {
            int again = name;
            refusals.illegalState("7: NAME " + name + " of all", RefusalsTest::full,
                    x -> x.define(12, again, again % 2 == 0, false));
        }
        check.due("7: another OBJECT may define that", 0, full().define(11, 7, false, false));
    }

    /** Promise 7, 3. Libraries: "If several exceptions apply, the one that is named first is thrown." */
    private void defineFirstNamed() {
        refusals.outOfBounds("7: no SECTION, no NAME", RefusalsTest::used, x -> x.define(5, 20, false, false));
        refusals.outOfBounds("7: no SECTION, no NAME, below", RefusalsTest::used, x -> x.define(-1, -1, true, true));
    }

    /** Promise 8: "Throws `IndexOutOfBoundsException` if there is no such OBJECT" */
    private void commonOfNoObject() {
        for (int object : Harbours.outside(0, 4)) {
            refusals.outOfBounds("8: common(" + object + ")", RefusalsTest::used, x -> x.common(object, 9, 1, 1));
        }
        refusals.outOfBounds("8: common(10) of 10", RefusalsTest::ofTenObjects, x -> x.common(10, 9, 1, 1));
        refusals.outOfBounds("8: common(0) of none", RefusalsTest::fresh, x -> x.common(0, 9, 1, 1));
    }

    /**
     * Promise 8: "Throws `IllegalArgumentException` if name is not 0 to 19, size is not 1 to 40, or align is no
     * ALIGN"
     */
    private void commonOfNoNameSizeOrAlign() {
        for (int name : NO_NAMES) {
            refusals.illegalArgument("8: NAME " + name, RefusalsTest::used, x -> x.common(1, name, 1, 1));
        }
        for (int size : Harbours.outside(1, 40)) {
            refusals.illegalArgument("8: size " + size, RefusalsTest::used, x -> x.common(1, 9, size, 1));
        }
        for (int align : NO_ALIGNS) {
            refusals.illegalArgument("8: ALIGN " + align, RefusalsTest::used, x -> x.common(1, 9, 1, align));
        }
    }

    /** Promise 8: "Throws `IllegalStateException` if it defines that already" */
    private void commonAlready() {
        refusals.illegalState("8: as COMMON", RefusalsTest::used, x -> x.common(2, 2, 40, 16));
        refusals.illegalState("8: as WEAK", RefusalsTest::used, x -> x.common(3, 7, 40, 16));
        refusals.illegalState("8: as STRONG", RefusalsTest::used, x -> x.common(0, 1, 40, 16));
        refusals.illegalState("8: as HIDDEN", RefusalsTest::used, x -> x.common(0, 0, 40, 16));
        for (int name = 0; name < 20; name++) {
            int again = name;
            refusals.illegalState("8: NAME " + name + " of all", RefusalsTest::full, x -> x.common(1, again, 9, 8));
        }
        check.due("8: another OBJECT may define that", 1, full().common(0, 7, 1, 1));
    }

    /** Promise 8, 3. Libraries: "If several exceptions apply, the one that is named first is thrown." */
    private void commonFirstNamed() {
        refusals.outOfBounds("8: no OBJECT, no NAME", RefusalsTest::used, x -> x.common(5, 20, 1, 1));
        refusals.outOfBounds("8: no OBJECT, no size", RefusalsTest::used, x -> x.common(5, 0, 0, 1));
        refusals.outOfBounds("8: no OBJECT, no ALIGN", RefusalsTest::used, x -> x.common(-1, 0, 1, 3));
        refusals.illegalArgument("8: no size, defined already", RefusalsTest::used, x -> x.common(2, 2, 41, 1));
        refusals.illegalArgument("8: no ALIGN, defined already", RefusalsTest::used, x -> x.common(2, 2, 1, 0));
    }

    /**
     * Promise 9: "Throws `IllegalArgumentException` if objects is below 1, or has one that there is not, or kind is
     * not 0 to 2"
     */
    private void itemOfNoObjectsOrKind() {
        for (int objects : new int[] {Harbours.LEAST, -32, -2, -1, 0, 32, 33, 48, 63, 64, 1 << 30, Harbours.MOST}) {
            for (int kind = 0; kind <= 2; kind++) {
                int of = kind;
                refusals.illegalArgument("9: item(" + objects + ", " + kind + ")", RefusalsTest::used,
                        x -> x.item(objects, of));
            }
        }
        for (int objects : new int[] {0, -1, 1 << 10, 1 << 11, Harbours.MOST, Harbours.LEAST}) {
            refusals.illegalArgument("9: item(" + objects + ") of 10", RefusalsTest::ofTenObjects,
                    x -> x.item(objects, 0));
        }
        refusals.illegalArgument("9: item(1) of none", RefusalsTest::fresh, x -> x.item(1, 0));
        for (int kind : Harbours.outside(0, 2)) {
            refusals.illegalArgument("9: kind " + kind, RefusalsTest::used, x -> x.item(16, kind));
        }
    }

    /** Promise 9: "Throws `IllegalStateException` if there are 8, or one of these OBJECTS is in another one" */
    private void itemIfThereAre8OrInAnother() {
        refusals.illegalState("9: the 9th item()", RefusalsTest::ofEightItems, x -> x.item(1 << 8, 0));
        refusals.illegalState("9: both", RefusalsTest::ofEightItems, x -> x.item(1, 0));
        refusals.illegalState("9: in the first one", RefusalsTest::used, x -> x.item(2, 0));
        refusals.illegalState("9: in the last one", RefusalsTest::used, x -> x.item(8, 2));
        refusals.illegalState("9: one of two in another one", RefusalsTest::used, x -> x.item(16 + 4, 1));
        refusals.illegalState("9: the lower one of two", RefusalsTest::used, x -> x.item(1 + 2, 1));
        check.due("9: one that is in no other one", 3, used().item(1 + 16, 1));
    }

    /** Promise 9, 3. Libraries: "If several exceptions apply, the one that is named first is thrown." */
    private void itemFirstNamed() {
        refusals.illegalArgument("9: no set, 8", RefusalsTest::ofEightItems, x -> x.item(0, 0));
        refusals.illegalArgument("9: a set below 1, with one in another one", RefusalsTest::ofEightItems,
                x -> x.item(-1, 0));
        refusals.illegalArgument("9: one that there is not, 8", RefusalsTest::ofEightItems, x -> x.item(1 << 9, 0));
        refusals.illegalArgument("9: no kind, 8", RefusalsTest::ofEightItems, x -> x.item(1 << 8, 3));
        refusals.illegalArgument("9: one that there is not, one in another one", RefusalsTest::used,
                x -> x.item(32 + 2, 0));
        refusals.illegalArgument("9: no kind, one in another one", RefusalsTest::used, x -> x.item(2, -1));
    }

    /** Promise 12: "Throws `IllegalArgumentException` if reach is not 1 to 500, or limit is not 0 to 9999" */
    private void boundsOutside() {
        for (int reach : Harbours.outside(1, 500)) {
            refusals.illegalArgument("12: bounds(" + reach + ", 0)", RefusalsTest::used, x -> x.bounds(reach, 0));
        }
        for (int limit : Harbours.outside(0, 9999)) {
            refusals.illegalArgument("12: bounds(1, " + limit + ")", RefusalsTest::used, x -> x.bounds(1, limit));
        }
        refusals.illegalArgument("12: both", RefusalsTest::used, x -> x.bounds(0, 10000));
        for (int edge : new int[] {0, 501}) {
            LinkHarbour x = used();
            check.illegalArgument("12: bounds(" + edge + ", 7)", () -> x.bounds(edge, 7));
            check.due("12: REACH is as before", 5, x.bounds(5, 19));
        }
    }

    /** Promise 13: "Throws `IllegalArgumentException` if entry is not 0 to 19" */
    private void linkOfNoName() {
        for (int entry : NO_NAMES) {
            refusals.illegalArgument("13: link(" + entry + ", true)", RefusalsTest::used, x -> x.link(entry, true));
            refusals.illegalArgument("13: link(" + entry + ", false)", RefusalsTest::full, x -> x.link(entry, false));
        }
        refusals.illegalArgument("13: it is no link", RefusalsTest::fresh, x -> x.link(20, true));
    }

    /** Promise 14: "Throws `IndexOutOfBoundsException` if there is no such SECTION" */
    private void ofSectionOfNoSection() {
        for (int section : Harbours.outside(0, 4)) {
            for (int what = 0; what <= 6; what++) {
                int of = what;
                refusals.outOfBounds("14: ofSection(" + section + ", " + what + ")", RefusalsTest::used,
                        x -> x.ofSection(section, of));
            }
        }
        refusals.outOfBounds("14: ofSection(24, 0) of 24", RefusalsTest::full, x -> x.ofSection(24, 0));
        refusals.outOfBounds("14: ofSection(0, 3) of none", RefusalsTest::fresh, x -> x.ofSection(0, 3));
    }

    /** Promise 14: "Throws `IllegalArgumentException` if what is not 0 to 6" */
    private void ofSectionOfNoWhat() {
        for (int what : Harbours.outside(0, 6)) {
            refusals.illegalArgument("14: ofSection(0, " + what + ")", RefusalsTest::used, x -> x.ofSection(0, what));
        }
    }

    /** Promise 14, 3. Libraries: "If several exceptions apply, the one that is named first is thrown." */
    private void ofSectionFirstNamed() {
        refusals.outOfBounds("14: no SECTION, no what", RefusalsTest::used, x -> x.ofSection(5, 7));
        refusals.outOfBounds("14: no SECTION, no what, below", RefusalsTest::used, x -> x.ofSection(-1, -1));
    }

    /** Promise 15: "Throws `IllegalArgumentException` if name is not 0 to 19, or what is not 0 to 4" */
    private void ofNameOfNoNameOrWhat() {
        for (int name : NO_NAMES) {
            for (int what = 0; what <= 4; what++) {
                int of = what;
                refusals.illegalArgument("15: ofName(" + name + ", " + what + ")", RefusalsTest::used,
                        x -> x.ofName(name, of));
            }
        }
        for (int what : Harbours.outside(0, 4)) {
            refusals.illegalArgument("15: ofName(0, " + what + ")", RefusalsTest::used, x -> x.ofName(0, what));
            refusals.illegalArgument("15: ahead of all links", RefusalsTest::fresh, x -> x.ofName(19, what));
        }
        refusals.illegalArgument("15: both", RefusalsTest::used, x -> x.ofName(20, 5));
    }

    /** Promise 16: "Throws `IndexOutOfBoundsException` if there is no such FAULT" */
    private void faultOfNoFault() {
        int count = used().many(10);
        check.due("16: the harbour has FAULTS", 5, count);
        for (int k : Harbours.outside(0, count - 1)) {
            for (int what = 0; what <= 3; what++) {
                int of = what;
                refusals.outOfBounds("16: fault(" + k + ", " + what + ")", RefusalsTest::used, x -> x.fault(k, of));
            }
        }
        refusals.outOfBounds("16: fault(0, 0) ahead of all links", RefusalsTest::fresh, x -> x.fault(0, 0));
        refusals.outOfBounds("16: fault(0, 0) of none", RefusalsTest::ofSixLibraries, x -> x.fault(0, 0));
    }

    /** Promise 16: "Throws `IllegalArgumentException` if what is not 0 to 3" */
    private void faultOfNoWhat() {
        for (int what : Harbours.outside(0, 3)) {
            refusals.illegalArgument("16: fault(0, " + what + ")", RefusalsTest::used, x -> x.fault(0, what));
            refusals.illegalArgument("16: fault(4, " + what + ")", RefusalsTest::used, x -> x.fault(4, what));
        }
    }

    /** Promise 16, 3. Libraries: "If several exceptions apply, the one that is named first is thrown." */
    private void faultFirstNamed() {
        refusals.outOfBounds("16: no FAULT, no what", RefusalsTest::used, x -> x.fault(5, 4));
        refusals.outOfBounds("16: no FAULT, no what, below", RefusalsTest::used, x -> x.fault(-1, -1));
        refusals.outOfBounds("16: no FAULT, no what, ahead of all links", RefusalsTest::fresh, x -> x.fault(0, 4));
    }

    /**
     * Promise 17: "Throws `IndexOutOfBoundsException` if it is below 0, or not below SIZE, or there was no link"
     */
    private void wordAtNoAddress() {
        int size = used().many(9);
        for (int address : Harbours.outside(0, size - 1)) {
            refusals.outOfBounds("17: wordAt(" + address + ")", RefusalsTest::used, x -> x.wordAt(address));
        }
        refusals.outOfBounds("17: wordAt(0) without a link", RefusalsTest::fresh, x -> x.wordAt(0));
        refusals.outOfBounds("17: wordAt(1) without a link", () -> Harbours.withSections(1), x -> x.wordAt(1));
        refusals.outOfBounds("17: wordAt(-1) without a link", RefusalsTest::fresh, x -> x.wordAt(-1));
        refusals.outOfBounds("17: wordAt(1), SIZE 1", RefusalsTest::ofSixLibraries, x -> x.wordAt(1));
    }

    /** LIBRARIES so many, and the latest link can be published. */
    private static LinkHarbour publishable(int libraries) {
        return Harbours.withLibraries(new int[libraries]);
    }

    /** Promise 18: "Throws `IllegalArgumentException` if needs is not 0 to 63, or has its own number" */
    private void publishNoNeeds() {
        for (int needs : new int[] {Harbours.LEAST, -64, -2, -1, 64, 65, 128, Harbours.MOST}) {
            for (int libraries = 0; libraries <= 6; libraries++) {
                int there = libraries;
                refusals.illegalArgument("18: publish(" + needs + ") as " + libraries, () -> publishable(there),
                        x -> x.publish(needs));
            }
        }
        for (int library = 0; library <= 5; library++) {
            int own = library;
            refusals.illegalArgument("18: its own number alone: " + own, () -> publishable(own),
                    x -> x.publish(1 << own));
            refusals.illegalArgument("18: its own number among all: " + own, () -> publishable(own),
                    x -> x.publish(63));
            check.due("18: all but its own number: " + own, own, publishable(own).publish(63 - (1 << own)));
        }
    }

    /**
     * Promise 18: "Throws `IllegalStateException` if there are 6, or there was no link, or it was not SHARED, or had
     * FAULTS"
     */
    private void publishIfThereAre6() {
        refusals.illegalState("18: the 7th publish()", () -> publishable(6), x -> x.publish(0));
        refusals.illegalState("18: the 7th publish(63)", () -> publishable(6), x -> x.publish(63));
        check.due("18: the 6th publish() is no such one", 5, publishable(5).publish(31));
    }

    /**
     * Promise 18: "Throws `IllegalStateException` if there are 6, or there was no link, or it was not SHARED, or had
     * FAULTS"
     */
    private void publishWithoutALink() {
        refusals.illegalState("18: publish() of a new one", RefusalsTest::fresh, x -> x.publish(0));
        refusals.illegalState("18: publish() ahead of all links", () -> Harbours.withSections(2), x -> x.publish(0));
    }

    private static LinkHarbour notShared() {
        LinkHarbour x = publishable(2);
        x.link(0, false);
        return x;
    }

    private static LinkHarbour withFaults() {
        LinkHarbour x = publishable(2);
        x.link(1, true);
        return x;
    }

    /**
     * Promise 18: "Throws `IllegalStateException` if there are 6, or there was no link, or it was not SHARED, or had
     * FAULTS"
     */
    private void publishNotShared() {
        refusals.illegalState("18: not SHARED", RefusalsTest::notShared, x -> x.publish(0));
        LinkHarbour x = notShared();
        x.link(0, true);
        check.due("18: SHARED behind that", 2, x.publish(0));
    }

    /**
     * Promise 18: "Throws `IllegalStateException` if there are 6, or there was no link, or it was not SHARED, or had
     * FAULTS"
     */
    private void publishWithFaults() {
        check.due("18: the harbour has 1 FAULT", 1, withFaults().many(10));
        refusals.illegalState("18: 1 FAULT", RefusalsTest::withFaults, x -> x.publish(0));
        refusals.illegalState("18: FAULTS, not SHARED", RefusalsTest::used, x -> x.publish(0));
        LinkHarbour x = withFaults();
        x.link(0, true);
        check.due("18: without FAULTS behind that", 2, x.publish(0));
    }

    /** Promise 18, 3. Libraries: "If several exceptions apply, the one that is named first is thrown." */
    private void publishFirstNamed() {
        refusals.illegalArgument("18: no needs, 6", () -> publishable(6), x -> x.publish(64));
        refusals.illegalArgument("18: needs below 0, 6", () -> publishable(6), x -> x.publish(-1));
        refusals.illegalArgument("18: no needs, no link", RefusalsTest::fresh, x -> x.publish(64));
        refusals.illegalArgument("18: its own number, no link", RefusalsTest::fresh, x -> x.publish(1));
        refusals.illegalArgument("18: no needs, not SHARED", RefusalsTest::notShared, x -> x.publish(-1));
        refusals.illegalArgument("18: its own number, not SHARED", RefusalsTest::notShared, x -> x.publish(4));
        refusals.illegalArgument("18: no needs, FAULTS", RefusalsTest::withFaults, x -> x.publish(64));
        refusals.illegalArgument("18: its own number, FAULTS", RefusalsTest::withFaults, x -> x.publish(4));
    }

    /** Promise 19: "Throws `IndexOutOfBoundsException` if there is no such LIBRARY" */
    private void openNoLibrary() {
        for (int library : Harbours.outside(0, 2)) {
            refusals.outOfBounds("19: open(" + library + ", true)", RefusalsTest::used, x -> x.open(library, true));
            refusals.outOfBounds("19: open(" + library + ", false)", RefusalsTest::used, x -> x.open(library, false));
        }
        for (int library : Harbours.outside(0, 5)) {
            refusals.outOfBounds("19: open(" + library + ") of 6", RefusalsTest::ofSixLibraries,
                    x -> x.open(library, true));
        }
        refusals.outOfBounds("19: open(0) of none", RefusalsTest::fresh, x -> x.open(0, true));
        refusals.outOfBounds("19: one that is NEEDED and not there yet", () -> Harbours.withLibraries(2),
                x -> x.open(1, true));
    }

    /** Promise 20: "Throws `IndexOutOfBoundsException` if there is no such LIBRARY" */
    private void closeNoLibrary() {
        for (int library : Harbours.outside(0, 2)) {
            refusals.outOfBounds("20: close(" + library + ")", RefusalsTest::used, x -> x.close(library));
        }
        refusals.outOfBounds("20: close(6) of 6", RefusalsTest::ofSixLibraries, x -> x.close(6));
        refusals.outOfBounds("20: close(0) of none", RefusalsTest::fresh, x -> x.close(0));
    }

    /** Promise 20: "Throws `IllegalStateException` if its COUNT is 0" */
    private void closeIfTheCountIs0() {
        refusals.illegalState("20: never opened", RefusalsTest::used, x -> x.close(2));
        refusals.illegalState("20: LOADED, as another one NEEDS it", RefusalsTest::used, x -> x.close(1));
        LinkHarbour once = used();
        check.due("20: COUNT 1 is no such one", 2, once.close(0));
        check.illegalState("20: COUNT is 0 again", () -> once.close(0));
    }

    /** Promise 20, 3. Libraries: "If several exceptions apply, the one that is named first is thrown." */
    private void closeFirstNamed() {
        refusals.outOfBounds("20: no LIBRARY, and so no COUNT", RefusalsTest::used, x -> x.close(3));
        refusals.outOfBounds("20: no LIBRARY, as there are none", RefusalsTest::fresh, x -> x.close(-1));
    }

    /** Promise 21: "Throws `IndexOutOfBoundsException` if there is no such LIBRARY" */
    private void callFromNoLibrary() {
        for (int library : Harbours.outside(0, 2)) {
            refusals.outOfBounds("21: call(" + library + ", 1)", RefusalsTest::used, x -> x.call(library, 1));
        }
        refusals.outOfBounds("21: call(6, 1) of 6", RefusalsTest::ofSixLibraries, x -> x.call(6, 1));
        refusals.outOfBounds("21: call(0, 1) of none", RefusalsTest::fresh, x -> x.call(0, 1));
    }

    /** Promise 21: "Throws `IllegalArgumentException` if name is not 0 to 19" */
    private void callNoName() {
        for (int name : NO_NAMES) {
            refusals.illegalArgument("21: call(0, " + name + ")", RefusalsTest::used, x -> x.call(0, name));
        }
    }

    /** Promise 21: "Throws `IllegalStateException` if it is not LOADED, or does not IMPORT that" */
    private void callNotLoadedOrNoImport() {
        refusals.illegalState("21: not LOADED", RefusalsTest::used, x -> x.call(2, 1));
        refusals.illegalState("21: not LOADED, and does not IMPORT that", RefusalsTest::used, x -> x.call(2, 2));
        for (int name = 2; name < 19; name++) {
            int other = name;
            refusals.illegalState("21: does not IMPORT " + name, RefusalsTest::used, x -> x.call(0, other));
        }
        refusals.illegalState("21: what it has for itself", RefusalsTest::used, x -> x.call(0, 0));
        refusals.illegalState("21: what it EXPORTS", RefusalsTest::used, x -> x.call(1, 1));
        check.due("21: LOADED, and IMPORTS that", 1, used().call(0, 1));
        check.due("21: LOADED, and IMPORTS that, without one", -1, used().call(1, 19));
    }

    /** Promise 21, 3. Libraries: "If several exceptions apply, the one that is named first is thrown." */
    private void callFirstNamed() {
        refusals.outOfBounds("21: no LIBRARY, no NAME", RefusalsTest::used, x -> x.call(3, 20));
        refusals.outOfBounds("21: no LIBRARY, no NAME, below", RefusalsTest::used, x -> x.call(-1, -1));
        refusals.illegalArgument("21: no NAME, not LOADED", RefusalsTest::used, x -> x.call(2, 20));
        refusals.illegalArgument("21: no NAME below, not LOADED", RefusalsTest::used, x -> x.call(2, -1));
    }

    /** Promise 22: "Throws `IndexOutOfBoundsException` if there is no such LIBRARY" */
    private void ofBindingOfNoLibrary() {
        for (int library : Harbours.outside(0, 2)) {
            for (int what = 0; what <= 3; what++) {
                int of = what;
                refusals.outOfBounds("22: ofBinding(" + library + ", 1, " + what + ")", RefusalsTest::used,
                        x -> x.ofBinding(library, 1, of));
            }
        }
        refusals.outOfBounds("22: ofBinding(6, 1, 0) of 6", RefusalsTest::ofSixLibraries, x -> x.ofBinding(6, 1, 0));
        refusals.outOfBounds("22: ofBinding(0, 1, 0) of none", RefusalsTest::fresh, x -> x.ofBinding(0, 1, 0));
    }

    /** Promise 22: "Throws `IllegalArgumentException` if name is not 0 to 19, or what is not 0 to 3" */
    private void ofBindingOfNoNameOrWhat() {
        for (int name : NO_NAMES) {
            for (int what = 0; what <= 3; what++) {
                int of = what;
                refusals.illegalArgument("22: ofBinding(0, " + name + ", " + what + ")", RefusalsTest::used,
                        x -> x.ofBinding(0, name, of));
            }
        }
        for (int what : Harbours.outside(0, 3)) {
            refusals.illegalArgument("22: ofBinding(0, 1, " + what + ")", RefusalsTest::used,
                    x -> x.ofBinding(0, 1, what));
        }
        refusals.illegalArgument("22: both", RefusalsTest::used, x -> x.ofBinding(0, 20, 4));
    }

    /** Promise 22, 3. Libraries: "If several exceptions apply, the one that is named first is thrown." */
    private void ofBindingFirstNamed() {
        refusals.outOfBounds("22: no LIBRARY, no NAME", RefusalsTest::used, x -> x.ofBinding(3, 20, 0));
        refusals.outOfBounds("22: no LIBRARY, no what", RefusalsTest::used, x -> x.ofBinding(-1, 0, 4));
    }

    /** Promise 23: "Throws `IndexOutOfBoundsException` if there is no such LIBRARY" */
    private void ofLibraryOfNoLibrary() {
        for (int library : Harbours.outside(0, 2)) {
            for (int what = 0; what <= 7; what++) {
                int of = what;
                refusals.outOfBounds("23: ofLibrary(" + library + ", " + what + ")", RefusalsTest::used,
                        x -> x.ofLibrary(library, of));
            }
        }
        refusals.outOfBounds("23: ofLibrary(6, 0) of 6", RefusalsTest::ofSixLibraries, x -> x.ofLibrary(6, 0));
        refusals.outOfBounds("23: ofLibrary(0, 0) of none", RefusalsTest::fresh, x -> x.ofLibrary(0, 0));
    }

    /** Promise 23: "Throws `IllegalArgumentException` if what is not 0 to 7" */
    private void ofLibraryOfNoWhat() {
        for (int what : Harbours.outside(0, 7)) {
            refusals.illegalArgument("23: ofLibrary(0, " + what + ")", RefusalsTest::used, x -> x.ofLibrary(0, what));
        }
    }

    /** Promise 23, 3. Libraries: "If several exceptions apply, the one that is named first is thrown." */
    private void ofLibraryFirstNamed() {
        refusals.outOfBounds("23: no LIBRARY, no what", RefusalsTest::used, x -> x.ofLibrary(3, 8));
        refusals.outOfBounds("23: no LIBRARY, no what, below", RefusalsTest::used, x -> x.ofLibrary(-1, -1));
    }

    /** Promise 24: "Throws `IllegalArgumentException` if what is not 0 to 12" */
    private void manyOfNoWhat() {
        for (int what : Harbours.outside(0, 12)) {
            refusals.illegalArgument("24: many(" + what + ")", RefusalsTest::used, x -> x.many(what));
            refusals.illegalArgument("24: many(" + what + ") of a new one", RefusalsTest::fresh, x -> x.many(what));
        }
    }

    /** Promise 26: "Throws `IllegalArgumentException` if reach is not 1 to 500" */
    private void sizeWithNoReach() {
        for (int reach : Harbours.outside(1, 500)) {
            refusals.illegalArgument("26: sizeWith(" + reach + ")", RefusalsTest::used, x -> x.sizeWith(reach));
        }
    }

    /** Promise 26: "Throws `IllegalStateException` if there was no link" */
    private void sizeWithWithoutALink() {
        refusals.illegalState("26: sizeWith(1) of a new one", RefusalsTest::fresh, x -> x.sizeWith(1));
        refusals.illegalState("26: sizeWith(500) ahead of all links", () -> Harbours.withSections(2),
                x -> x.sizeWith(500));
    }

    /** Promise 26, 3. Libraries: "If several exceptions apply, the one that is named first is thrown." */
    private void sizeWithFirstNamed() {
        refusals.illegalArgument("26: no REACH, no link", RefusalsTest::fresh, x -> x.sizeWith(0));
        refusals.illegalArgument("26: too much REACH, no link", RefusalsTest::fresh, x -> x.sizeWith(501));
    }

    /** Promise 27: "Throws `IndexOutOfBoundsException` if there is no such OBJECT" */
    private void faultsWithoutNoObject() {
        for (int object : Harbours.outside(0, 4)) {
            refusals.outOfBounds("27: faultsWithout(" + object + ")", RefusalsTest::used,
                    x -> x.faultsWithout(object));
        }
        refusals.outOfBounds("27: faultsWithout(10) of 10", RefusalsTest::ofTenObjects, x -> x.faultsWithout(10));
    }

    /** Promise 27: "Throws `IllegalStateException` if there was no link" */
    private void faultsWithoutALink() {
        refusals.illegalState("27: ahead of all links", () -> Harbours.withSections(2), x -> x.faultsWithout(0));
        refusals.illegalState("27: ahead of all links, the last one of 10", () -> Harbours.withObjects(10),
                x -> x.faultsWithout(9));
    }

    /** Promise 27, 3. Libraries: "If several exceptions apply, the one that is named first is thrown." */
    private void faultsWithoutFirstNamed() {
        refusals.outOfBounds("27: no OBJECT, no link", () -> Harbours.withSections(2), x -> x.faultsWithout(1));
        refusals.outOfBounds("27: no OBJECT, no link, of a new one", RefusalsTest::fresh, x -> x.faultsWithout(0));
    }

    /** Promise 28: "Throws `IndexOutOfBoundsException` if there is no such LIBRARY" */
    private void goesOfNoLibrary() {
        for (int library : Harbours.outside(0, 2)) {
            refusals.outOfBounds("28: goes(" + library + ")", RefusalsTest::used, x -> x.goes(library));
        }
        refusals.outOfBounds("28: goes(6) of 6", RefusalsTest::ofSixLibraries, x -> x.goes(6));
        refusals.outOfBounds("28: goes(0) of none", RefusalsTest::fresh, x -> x.goes(0));
    }

    /** Promise 29: "Throws `IndexOutOfBoundsException` if there is no such LIBRARY" */
    private void wouldBindOfNoLibrary() {
        for (int library : Harbours.outside(0, 2)) {
            refusals.outOfBounds("29: wouldBind(" + library + ", 1)", RefusalsTest::used,
                    x -> x.wouldBind(library, 1));
        }
        refusals.outOfBounds("29: wouldBind(6, 1) of 6", RefusalsTest::ofSixLibraries, x -> x.wouldBind(6, 1));
        refusals.outOfBounds("29: wouldBind(0, 1) of none", RefusalsTest::fresh, x -> x.wouldBind(0, 1));
    }

    /** Promise 29: "Throws `IllegalArgumentException` if name is not 0 to 19" */
    private void wouldBindOfNoName() {
        for (int name : NO_NAMES) {
            refusals.illegalArgument("29: LOADED: NAME " + name, RefusalsTest::used, x -> x.wouldBind(0, name));
            refusals.illegalArgument("29: not LOADED: NAME " + name, RefusalsTest::used, x -> x.wouldBind(2, name));
        }
    }

    /** Promise 29, 3. Libraries: "If several exceptions apply, the one that is named first is thrown." */
    private void wouldBindFirstNamed() {
        refusals.outOfBounds("29: no LIBRARY, no NAME", RefusalsTest::used, x -> x.wouldBind(3, 20));
        refusals.outOfBounds("29: no LIBRARY, no NAME, below", RefusalsTest::used, x -> x.wouldBind(-1, -1));
    }
}
