import java.util.Arrays;

/**
 * The edges that the document names in "2. To link" and promises 12 to 17: each test stands at the edge itself and
 * just beyond it, and says which sentence it holds. Refused calls are looked at in RefusalsTest too.
 */
public final class BoundaryLinksTest {
    private static final int[] ALIGNS = {1, 2, 4, 8, 16};

    private final Check check = new Check("BoundaryLinksTest");

    public static void main(String[] args) {
        BoundaryLinksTest test = new BoundaryLinksTest();
        test.taken();
        test.definitions();
        test.reached();
        test.layouts();
        test.jumps();
        test.words();
        test.faults();
        test.promises();
        test.check.end();
    }

    private void taken() {
        plainOnes();
        drawnByStrongOrCommon();
        wantedAsTheEntry();
        wantedByReferences();
        wantedNoMore();
        drawnWhileARoundGoesOn();
        asManyRoundsAsCanBe();
        asManyItemsAsCanBe();
        noRoundMore();
    }

    private void definitions() {
        severalStrongOnes();
        theGreatestOfCommonOnes();
        strongCommonWeak();
        theFirstWeakOne();
        hiddenAsTheDefinitionIs();
    }

    private void reached() {
        reachedAsKept();
        reachedByTheEntry();
        reachedAsShared();
        reachedByReferences();
        entryWithoutADefinition();
        referencesWithoutADefinition();
        importsOfAllNames();
    }

    private void layouts() {
        orderOfTheLayout();
        nextAddressOfSections();
        nextAddressOfCommons();
        commonsByNames();
        sizeWithoutAny();
        sizeBehindTheLastOne();
        theGreatestSize();
    }

    private void jumps() {
        reachAhead();
        reachBack();
        reachToNothing();
        longAsLongAsThereAreSuch();
        longForEver();
    }

    private void words() {
        wordsOfFillAndCommon();
        wordsOfWords();
        wordsOfShortJumps();
        wordsOfLongJumps();
        wordsBetween();
    }

    private void faults() {
        belowZero();
        aboveLimit();
        addedAlone();
        notIfItIsAnImport();
        noFaultOfJumps();
        orderOfFaults();
        asManyFaultsAsCanBe();
    }

    private void promises() {
        promise12();
        promise13();
        promise14AheadOfAllLinks();
        promise14();
        promise15AheadOfAllLinks();
        promise15();
        promise16();
        promise17();
        promise17OfTheLatestLink();
    }

    /** 2. To link: "TAKEN: ITEM by ITEM. Of a PLAIN one all OBJECTS, by numbers." */
    private void plainOnes() {
        LinkHarbour one = Harbours.withObjects(10);
        one.item(1023, 0);
        one.link(0, false);
        LinkHarbour three = Harbours.withObjects(10);
        three.item(1 << 9, 0);
        three.item(1023 - 513, 0);
        three.item(1, 0);
        three.link(0, false);
        for (int object = 0; object < 10; object++) {
            check.due("one ITEM of all", object, one.ofObject(object, 3));
            check.due("the last one first, and the first one last", object == 0 ? 9 : object == 9 ? 0 : object,
                    three.ofObject(object, 3));
        }
        check.due("all", 10, one.many(7));
        check.due("all of three", 10, three.many(7));
        three.clear();
        three.link(0, false);
        check.due("none of no ITEMS", 0, three.many(7));
        three.item(16, 0);
        three.link(0, false);
        check.due("one of one", 1, three.many(7));
    }

    /**
     * 2. To link: "it is TAKEN, if it is not yet, and defines, STRONG or COMMON, a NAME that is WANTED"
     */
    private void drawnByStrongOrCommon() {
        LinkHarbour x = Harbours.withObjectsAndSections(8);
        x.define(0, 0, false, false);
        for (int name = 1; name <= 6; name++) {
            x.word(0, name, 0, false);
        }
        x.define(1, 1, false, false);
        x.define(2, 2, false, true);
        x.common(3, 3, 1, 1);
        x.define(4, 4, true, false);
        x.define(5, 5, true, true);
        x.define(6, 7, false, false);
        for (int object = 1; object <= 3; object++) {
            x.define(object, 10 + object, object == 1, false);
            x.common(object, 14 + object, 1, 1);
        }
        x.item(1, 0);
        x.item(2 + 4 + 8 + 16 + 32 + 64 + 128, 1);
        x.link(0, false);
        check.due("STRONG", 1, x.ofObject(1, 3));
        check.due("STRONG, HIDDEN", 2, x.ofObject(2, 3));
        check.due("COMMON", 3, x.ofObject(3, 3));
        check.due("WEAK", -1, x.ofObject(4, 3));
        check.due("WEAK, HIDDEN", -1, x.ofObject(5, 3));
        check.due("STRONG, of a NAME that is not WANTED", -1, x.ofObject(6, 3));
        check.due("one that defines nothing", -1, x.ofObject(7, 3));
        x.define(4, 6, false, false);
        x.link(0, false);
        check.due("by another NAME that it defines STRONG", 4, x.ofObject(4, 3));
        check.due("each once", 5, x.many(7));
    }

    /** 2. To link: "a NAME that is WANTED: that is the ENTRY" */
    private void wantedAsTheEntry() {
        for (int entry : new int[] {0, 1, 18, 19}) {
            LinkHarbour x = Harbours.withObjects(10);
            x.section(9, 1, false);
            x.define(0, entry, false, false);
            x.common(8, entry, 1, 1);
            x.item(1023, 1);
            x.link(entry, false);
            check.due("the first one that defines it", 0, x.ofObject(8, 3));
            check.due("not the second one", -1, x.ofObject(9, 3));
            x.link(19 - entry, false);
            check.due("no one defines another ENTRY", 0, x.many(7));
        }
    }

    /**
     * 2. To link: "or one to which an OBJECT that is TAKEN has a REFERENCE that is not WEAK, and which no OBJECT that
     * is TAKEN defines, not even as WEAK."
     */
    private void wantedByReferences() {
        for (int kind = 0; kind < 6; kind++) {
            LinkHarbour x = Harbours.withObjectsAndSections(3);
            x.section(0, 1, false);
            x.define(0, 0, false, false);
            x.define(1, 19, false, false);
            x.define(2, 5, false, false);
            x.word(2, 19, 0, false);
            if (kind == 1) {
                x.word(0, 19, 0, true);
                x.jump(0, 19, true);
            } else if (kind == 2) {
                x.word(0, 19, 0, false);
            } else if (kind == 3) {
                x.jump(0, 19, false);
            } else if (kind == 4) {
                x.word(3, 19, 0, false);
            } else if (kind == 5) {
                x.word(0, 19, 0, true);
                x.jump(0, 19, false);
            }
            x.item(1, 0);
            x.item(2 + 4, 1);
            x.link(0, false);
            String[] what = {"no REFERENCE but of one that is not TAKEN", "WEAK ones alone", "a WORD", "a JUMP",
                "in a SECTION that is not REACHED", "WEAK ones and one that is not"};
            check.due(what[kind], kind < 2 ? -1 : 1, x.ofObject(1, 3));
            check.due(what[kind] + ": the other one", -1, x.ofObject(2, 3));
        }
    }

    /** 2. To link: "and which no OBJECT that is TAKEN defines, not even as WEAK." */
    private void wantedNoMore() {
        for (int kind = 0; kind < 5; kind++) {
            LinkHarbour x = Harbours.withObjectsAndSections(3);
            x.define(0, 0, false, false);
            x.word(0, 19, 0, false);
            if (kind == 1) {
                x.define(0, 19, true, true);
            } else if (kind == 2) {
                x.common(0, 19, 1, 1);
            } else if (kind == 3) {
                x.define(2, 19, true, false);
            }
            x.define(1, 19, false, false);
            x.item(1, 0);
            x.item(2, 1);
            x.item(4, 0);
            x.link(0, false);
            check.due("defined by the same one, or by one that is TAKEN behind that: " + kind,
                    kind == 1 || kind == 2 ? -1 : 1, x.ofObject(1, 3));
        }
        LinkHarbour y = Harbours.withObjectsAndSections(3);
        y.define(0, 7, true, true);
        y.define(1, 7, false, false);
        y.define(1, 8, false, false);
        y.item(1, 0);
        y.item(2, 1);
        y.link(7, false);
        check.due("nor the ENTRY, as WEAK", -1, y.ofObject(1, 3));
        check.due("which has its DEFINITION", 2, y.ofName(7, 0));
        y.link(8, false);
        check.due("another ENTRY is WANTED", 1, y.ofObject(1, 3));
    }

    /** 2. To link: "ITEM by ITEM, in each OBJECT by OBJECT, by numbers" */
    private void drawnWhileARoundGoesOn() {
        LinkHarbour x = Harbours.withObjectsAndSections(4);
        x.define(0, 0, false, false);
        x.word(0, 1, 0, false);
        x.define(1, 1, false, false);
        x.define(1, 2, true, false);
        x.word(1, 3, 0, false);
        x.define(2, 2, false, false);
        x.define(2, 1, false, false);
        x.define(3, 3, false, false);
        x.item(15, 1);
        x.link(0, false);
        check.due("the first one", 0, x.ofObject(0, 3));
        check.due("the one that it wants", 1, x.ofObject(1, 3));
        check.due("not one for what is no more WANTED in this round", -1, x.ofObject(2, 3));
        check.due("the one that is WANTED in this round", 2, x.ofObject(3, 3));
    }

    /** OBJECT 0 wants NAME 9 of OBJECT 9, that wants NAME 8 of OBJECT 8, and so on: each has NAMES of its own. */
    private static LinkHarbour downwards() {
        LinkHarbour x = Harbours.withObjectsAndSections(10);
        x.define(0, 0, false, false);
        x.word(0, 9, 0, false);
        for (int k = 1; k < 10; k++) {
            x.define(k, k, false, false);
            if (k > 1) {
                x.jump(k, k - 1, false);
            }
        }
        return x;
    }

    /** 2. To link: "So again from the first one on, as long as a round has TAKEN one." */
    private void asManyRoundsAsCanBe() {
        LinkHarbour x = downwards();
        x.item(1023, 1);
        check.due("no FAULT", 0, x.link(0, false));
        check.due("the first one", 0, x.ofObject(0, 3));
        for (int object = 1; object < 10; object++) {
            check.due("one in each round: " + object, 10 - object, x.ofObject(object, 3));
        }
        LinkHarbour y = downwards();
        y.item(1023 - 8, 1);
        check.due("one that is missing: FAULT 3", 1, y.link(0, false));
        check.due("as far as it goes", 7, y.many(7));
        check.due("not what is WANTED by the missing one", -1, y.ofObject(2, 3));
    }

    /** 2. To link: "Of an ARCHIVE, or a GROUP of these (one behind the other): ITEM by ITEM" */
    private void asManyItemsAsCanBe() {
        LinkHarbour x = downwards();
        x.item(1 + 2 + 4, 1);
        for (int k = 3; k < 10; k++) {
            x.item(1 << k, 2);
        }
        check.due("no FAULT", 0, x.link(0, false));
        for (int object = 1; object < 10; object++) {
            check.due("a GROUP of 8: " + object, 10 - object, x.ofObject(object, 3));
        }
        LinkHarbour y = downwards();
        y.item(1 + 2 + 4, 1);
        for (int k = 3; k < 10; k++) {
            y.item(1 << k, 1);
        }
        check.due("FAULT 3", 1, y.link(0, false));
        check.due("8 ARCHIVES are gone through one behind the other", 2, y.many(7));
        check.due("so that the last one is TAKEN", 1, y.ofObject(9, 3));
        check.due("and not the one ahead of it", -1, y.ofObject(8, 3));
    }

    /** 2. To link: "So again from the first one on, as long as a round has TAKEN one." */
    private void noRoundMore() {
        LinkHarbour x = downwards();
        x.item(1 << 8, 1);
        x.item(1 << 7, 2);
        x.item(1 + 512, 0);
        x.item(1 << 6, 2);
        x.link(0, false);
        check.due("a PLAIN one does not go back to a GROUP ahead of it", 2, x.many(7));
        LinkHarbour y = downwards();
        y.item(1 + 512, 1);
        y.item(1 << 7, 1);
        y.item(1 << 8, 2);
        y.item(1 << 6, 2);
        y.link(0, false);
        check.due("the second round of a GROUP", 5, y.many(7));
        check.due("first the second ITEM of it", 2, y.ofObject(8, 3));
        check.due("then, from the first one on, the first", 3, y.ofObject(7, 3));
        check.due("and the third", 4, y.ofObject(6, 3));
    }

    /** Each OBJECT of the set defines NAME 5, the one by kind 0 as STRONG, 1 as COMMON, 2 as WEAK, behind k words. */
    private static LinkHarbour defining(int... kinds) {
        LinkHarbour x = Harbours.withObjectsAndSections(kinds.length);
        for (int k = 0; k < kinds.length; k++) {
            if (kinds[k] == 1) {
                x.common(k, 5, k + 1, 1);
            } else {
                if (k > 0) {
                    x.fill(k, k);
                }
                x.define(k, 5, kinds[k] == 2, false);
            }
        }
        x.item((1 << kinds.length) - 1, 0);
        return x;
    }

    /**
     * 2. To link: "The DEFINITION of a NAME: of those of the OBJECTS that are TAKEN: the STRONG one (of several that
     * of which the OBJECT was TAKEN first: FAULT 1, once for this NAME)"
     */
    private void severalStrongOnes() {
        for (int many = 1; many <= 10; many++) {
            LinkHarbour x = defining(new int[many]);
            check.due("FAULTS of so many: " + many, many == 1 ? 0 : 1, x.link(5, false));
            check.due("the first one", 0, x.ofName(5, 1));
            check.due("its address", 1, x.ofName(5, 2));
            x.clear();
            x.item(1 << many - 1, 0);
            if (many > 1) {
                x.item((1 << many - 1) - 1, 0);
            }
            check.due("FAULTS with the last one first", many == 1 ? 0 : 1, x.link(5, false));
            check.due("the one that is TAKEN first", many - 1, x.ofName(5, 1));
            check.due("the address of that", many, x.ofName(5, 2));
        }
        LinkHarbour y = Harbours.withObjectsAndSections(2);
        for (int name = 0; name < 20; name++) {
            y.define(0, name, false, false);
            y.define(1, name, false, true);
        }
        y.item(3, 0);
        check.due("FAULT 1 for each NAME", 20, y.link(0, false));
        check.due("the last one of these", 19, y.fault(19, 1));
        y.clear();
        y.item(2, 0);
        check.due("not of one that is not TAKEN", 0, y.link(0, false));
    }

    /**
     * 2. To link: "otherwise, if there is a COMMON one, COMMON: with the greatest size, and the greatest ALIGN, of
     * all these"
     */
    private void theGreatestOfCommonOnes() {
        for (int first = 0; first < 5; first++) {
            for (int second = 0; second < 5; second++) {
                LinkHarbour x = Harbours.withObjects(2);
                x.common(0, 19, first == 4 ? 40 : 1 + first, ALIGNS[first]);
                x.common(1, 19, 40 - second, ALIGNS[second]);
                x.item(3, 0);
                x.link(19, false);
                int align = ALIGNS[Math.max(first, second)];
                check.due("the greatest ALIGN", align, x.ofName(19, 2));
                check.due("the greatest size", align + (first == 4 ? 40 : 40 - second), x.many(9));
            }
        }
        LinkHarbour y = Harbours.withObjects(10);
        for (int k = 0; k < 10; k++) {
            y.common(k, 0, 10 - k, ALIGNS[k % 5]);
        }
        y.item(1022, 0);
        y.link(0, true);
        check.due("of those that are TAKEN", 16 + 9, y.many(9));
    }

    /**
     * 2. To link: "the STRONG one (of several that of which the OBJECT was TAKEN first: FAULT 1, once for this NAME);
     * otherwise, if there is a COMMON one, COMMON: with the greatest size, and the greatest ALIGN, of all these;
     * otherwise the WEAK one of which the OBJECT was TAKEN first."
     */
    private void strongCommonWeak() {
        int[][] orders = {{0, 1, 2}, {0, 2, 1}, {1, 0, 2}, {1, 2, 0}, {2, 0, 1}, {2, 1, 0}};
        for (int[] order : orders) {
            LinkHarbour x = defining(order);
            check.due("no FAULT", 0, x.link(5, false));
            check.due("the STRONG one", 0, x.ofName(5, 0));
            check.due("its OBJECT", order[0] == 0 ? 0 : order[1] == 0 ? 1 : 2, x.ofName(5, 1));
        }
        int[][] pairs = {{1, 2}, {2, 1}};
        for (int[] pair : pairs) {
            LinkHarbour x = defining(pair);
            check.due("no FAULT", 0, x.link(5, false));
            check.due("the COMMON one", 1, x.ofName(5, 0));
            check.due("without an OBJECT", -1, x.ofName(5, 1));
            check.due("its own size alone", pair[0] == 1 ? 2 : 3, x.many(9));
        }
        LinkHarbour y = defining(0, 1, 1, 1);
        y.link(5, false);
        check.due("COMMON ones beside a STRONG one stand nowhere", 1, y.many(9));
    }

    /** 2. To link: "otherwise the WEAK one of which the OBJECT was TAKEN first." */
    private void theFirstWeakOne() {
        for (int many = 1; many <= 10; many++) {
            int[] kinds = new int[many];
            Arrays.fill(kinds, 2);
            LinkHarbour x = defining(kinds);
            check.due("no FAULT", 0, x.link(5, false));
            check.due("WEAK", 2, x.ofName(5, 0));
            check.due("the first one", 0, x.ofName(5, 1));
            x.clear();
            x.item(1 << many - 1, 0);
            if (many > 1) {
                x.item((1 << many - 1) - 1, 0);
            }
            check.due("no FAULT", 0, x.link(5, false));
            check.due("the one that is TAKEN first", many - 1, x.ofName(5, 1));
        }
    }

    /** 2. To link: "if the link is SHARED, those with DEFINITIONS that are not HIDDEN, and all that are COMMON" */
    private void hiddenAsTheDefinitionIs() {
        for (int kinds = 0; kinds < 8; kinds++) {
            LinkHarbour x = Harbours.withObjectsAndSections(2);
            x.section(0, 1, true);
            x.define(2, 0, false, false);
            x.define(0, 19, true, kinds % 2 == 1);
            if (kinds / 4 == 0) {
                x.define(1, 19, kinds == 2 || kinds == 3, kinds / 2 == 0);
            } else {
                x.common(1, 19, 1, 1);
            }
            x.item(3, 0);
            x.link(0, true);
            boolean isHidden = kinds < 2 || kinds == 3;
            check.due("as the DEFINITION is: " + kinds, isHidden ? -1 : 1, x.ofName(19, 2));
            x.publish(0);
            check.due("and so EXPORTED or not: " + kinds, isHidden ? -1 : 1, x.ofBinding(0, 19, 0));
        }
    }

    /** 2. To link: "REACHED: the SECTIONS, of OBJECTS that are TAKEN, that are KEPT" */
    private void reachedAsKept() {
        for (int kept = 0; kept < 2; kept++) {
            LinkHarbour x = Harbours.withObjects(2);
            for (int k = 0; k < 24; k++) {
                x.section(k % 2, 1, kept == 1);
            }
            x.item(2, 0);
            x.link(0, false);
            check.due("SECTIONS that are REACHED", kept * 12, x.many(8));
            check.due("the first one, of an OBJECT that is not TAKEN", 0, x.ofSection(0, 3));
            check.due("the last one", kept, x.ofSection(23, 3));
        }
    }

    /** 2. To link: "the one with the DEFINITION of the ENTRY (if that is COMMON, it is REACHED itself)" */
    private void reachedByTheEntry() {
        for (int name : new int[] {0, 19}) {
            LinkHarbour x = Harbours.withObjects(2);
            x.section(0, 1, false);
            x.section(1, 1, false);
            x.define(0, name, false, true);
            x.define(1, name, true, false);
            x.common(1, 7, 3, 4);
            x.item(3, 0);
            x.link(name, false);
            check.due("the one with the DEFINITION", 1, x.ofSection(0, 3));
            check.due("not that of another definition", 0, x.ofSection(1, 3));
            check.due("a COMMON one that is not the ENTRY", -1, x.ofName(7, 2));
            check.due("SIZE", 1, x.many(9));
            x.link(7, false);
            check.due("no SECTION by a COMMON ENTRY", 0, x.many(8));
            check.due("it is REACHED itself", 4, x.ofName(7, 2));
            check.due("SIZE with it", 7, x.many(9));
            x.link(8, false);
            check.due("nothing by an ENTRY without a DEFINITION", 0, x.many(8));
        }
    }

    /**
     * 2. To link: "if the link is SHARED, those with DEFINITIONS that are not HIDDEN, and all that are COMMON"
     */
    private void reachedAsShared() {
        LinkHarbour x = Harbours.withObjects(1);
        for (int name = 0; name < 20; name++) {
            x.section(0, 1, false);
            if (name % 5 == 4) {
                x.common(0, name, 1, 1);
            } else {
                x.define(name, name, name % 2 == 0, name % 3 == 0);
            }
        }
        x.item(1, 0);
        x.link(1, true);
        for (int name = 0; name < 20; name++) {
            boolean isCommon = name % 5 == 4;
            check.due("SHARED: SECTION of NAME " + name, !isCommon && name % 3 != 0 ? 1 : 0, x.ofSection(name, 3));
            check.due("SHARED: NAME " + name, isCommon || name % 3 != 0 ? 1 : 0, x.ofName(name, 2) == -1 ? 0 : 1);
        }
        x.link(1, false);
        for (int name = 0; name < 20; name++) {
            check.due("not SHARED: SECTION of NAME " + name, name == 1 ? 1 : 0, x.ofSection(name, 3));
            check.due("not SHARED: NAME " + name, name == 1 ? 1 : -1, x.ofName(name, 2));
        }
    }

    /**
     * 2. To link: "and, for each REFERENCE in one that is REACHED, the one with its DEFINITION, or that COMMON."
     */
    private void reachedByReferences() {
        LinkHarbour x = Harbours.withObjects(1);
        for (int k = 0; k < 24; k++) {
            x.section(0, 1, k == 23);
        }
        for (int name = 0; name < 19; name++) {
            x.define(name, name, false, true);
        }
        x.word(23, 18, 0, true);
        for (int k = 18; k > 0; k--) {
            if (k % 2 == 0) {
                x.jump(k, k - 1, true);
            } else {
                x.word(k, k - 1, 0, false);
            }
        }
        x.item(1, 0);
        x.link(18, false);
        check.due("a chain down to the first one", 20, x.many(8));
        check.due("the first one", 1, x.ofSection(0, 3));
        check.due("not what no one has a REFERENCE to", 0, x.ofSection(22, 3));
        x.common(0, 19, 5, 1);
        x.link(18, false);
        check.due("nor a COMMON one without a REFERENCE", -1, x.ofName(19, 2));
        x.word(0, 19, 0, true);
        x.word(0, 0, 0, false);
        x.word(0, 18, 0, false);
        x.link(18, false);
        check.due("a COMMON one by a REFERENCE at the end of the chain", x.many(9) - 5, x.ofName(19, 2));
        check.due("a ring ends", 20, x.many(8));
    }

    /** 2. To link: "FAULT 2: the ENTRY has no DEFINITION." */
    private void entryWithoutADefinition() {
        for (int entry = 0; entry < 20; entry++) {
            LinkHarbour x = Harbours.withObjectsAndSections(1);
            x.define(0, entry, true, true);
            x.common(0, (entry + 1) % 20, 1, 1);
            check.due("as no OBJECT is TAKEN", 1, x.link(entry, entry % 2 == 0));
            x.item(1, 0);
            check.due("WEAK is a DEFINITION", 0, x.link(entry, entry % 2 == 0));
            check.due("COMMON is one", 0, x.link((entry + 1) % 20, entry % 2 == 0));
            check.due("none", 1, x.link((entry + 2) % 20, entry % 2 == 0));
            check.due("FAULT 2", 2, x.fault(0, 0));
            check.due("its NAME", (entry + 2) % 20, x.fault(0, 1));
        }
    }

    /**
     * 2. To link: "A REFERENCE without a DEFINITION stands for the address 0; if it is in a SECTION that is REACHED,
     * and not WEAK, that is FAULT 3, or, if the link is SHARED, an IMPORT of its NAME (WEAK ones, too)."
     */
    private void referencesWithoutADefinition() {
        for (int weak = 0; weak < 2; weak++) {
            for (int kept = 0; kept < 2; kept++) {
                LinkHarbour x = Harbours.withObjects(1);
                x.section(0, 1, true);
                x.section(0, 1, kept == 1);
                x.define(0, 0, false, false);
                x.word(1, 19, 7, weak == 1);
                x.jump(1, 18, weak == 1);
                x.item(1, 0);
                String what = "weak " + weak + ", kept " + kept;
                check.due("FAULTS: " + what, weak == 0 && kept == 1 ? 2 : 0, x.link(0, false));
                check.due("IMPORTS: " + what, 0, x.many(12));
                if (kept == 1) {
                    check.due("a WORD to 0", 7, x.wordAt(1));
                    check.due("a JUMP to 0", -4, x.wordAt(3));
                }
                check.due("SHARED: FAULTS: " + what, 0, x.link(0, true));
                check.due("SHARED: IMPORTS: " + what, 2 * kept, x.many(12));
                check.due("SHARED: of the WORD", kept, x.ofName(19, 3));
                check.due("SHARED: of the JUMP", kept, x.ofName(18, 3));
                if (kept == 1) {
                    check.due("SHARED: a WORD to 0", 7, x.wordAt(1));
                    check.due("SHARED: a JUMP to 0", -4, x.wordAt(3));
                }
            }
        }
    }

    /** 2. To link: "or, if the link is SHARED, an IMPORT of its NAME (WEAK ones, too)." */
    private void importsOfAllNames() {
        LinkHarbour x = Harbours.withSections(3);
        check.due("no IMPORT", 0, x.link(0, true));
        check.due("none", 0, x.many(12));
        for (int name = 1; name < 20; name++) {
            if (name % 2 == 0) {
                x.word(name / 8, name, 0, name % 3 == 0);
            } else {
                x.jump(name / 8, name, name % 3 == 0);
            }
            x.link(0, true);
            check.due("IMPORTS of so many NAMES", name, x.many(12));
        }
        x.word(2, 19, 0, false);
        x.link(0, true);
        check.due("each NAME once", 19, x.many(12));
        x.link(19, true);
        check.due("the ENTRY is an IMPORT, too, and FAULT 2", 1, x.many(10));
        check.due("as it has a REFERENCE", 1, x.ofName(19, 3));
        LinkHarbour y = Harbours.withSections(1);
        y.link(19, true);
        check.due("without a REFERENCE it is none", 0, y.many(12));
    }

    /**
     * 2. To link: "LAYOUT: the SECTIONS that are REACHED, in the order in which their OBJECTS were TAKEN, by numbers
     * in each, each at the next address that its ALIGN divides, from 1 on; then the COMMON ones that are REACHED, by
     * NAMES, likewise."
     */
    private void orderOfTheLayout() {
        LinkHarbour x = Harbours.withObjects(10);
        for (int k = 0; k < 24; k++) {
            x.section(k % 10, 1, k != 11);
            x.fill(k, 1 + k);
        }
        x.common(0, 0, 2, 1);
        x.item(1 << 9, 0);
        x.item(1023 - 512, 0);
        x.link(0, false);
        int address = 1;
        for (int turn = 0; turn < 10; turn++) {
            int object = (turn + 9) % 10;
            for (int section = object; section < 24; section += 10) {
                check.due("SECTION " + section, section == 11 ? -1 : address, x.ofSection(section, 4));
                address += section == 11 ? 0 : 1 + section;
            }
        }
        check.due("COMMON ones behind all", address, x.ofName(0, 2));
        check.due("SIZE", address + 2, x.many(9));
    }

    /** 2. To link: "each at the next address that its ALIGN divides, from 1 on" */
    private void nextAddressOfSections() {
        for (int align : ALIGNS) {
            LinkHarbour first = Harbours.withObjects(1);
            first.section(0, align, true);
            first.item(1, 0);
            first.link(0, false);
            check.due("from 1 on: ALIGN " + align, align, first.ofSection(0, 4));
            for (int words = 1; words <= 40; words++) {
                LinkHarbour x = Harbours.withObjects(1);
                x.section(0, 1, true);
                x.section(0, align, true);
                x.fill(0, words);
                x.fill(1, 1);
                x.item(1, 0);
                x.link(0, false);
                int due = 1 + words;
                while (due % align != 0) {
                    due++;
                }
                check.due("ALIGN " + align + " behind " + words, due, x.ofSection(1, 4));
                check.due("SIZE of that", due + 1, x.many(9));
            }
        }
    }

    /** 2. To link: "then the COMMON ones that are REACHED, by NAMES, likewise." */
    private void nextAddressOfCommons() {
        for (int align : ALIGNS) {
            LinkHarbour first = Harbours.withObjects(1);
            first.common(0, 19, 1, align);
            first.item(1, 0);
            first.link(19, false);
            check.due("from 1 on: ALIGN " + align, align, first.ofName(19, 2));
            for (int words = 1; words <= 40; words++) {
                LinkHarbour x = Harbours.withObjects(1);
                x.common(0, 0, words, 1);
                x.common(0, 1, 1, align);
                x.item(1, 0);
                x.link(0, true);
                int due = 1 + words;
                while (due % align != 0) {
                    due++;
                }
                check.due("ALIGN " + align + " behind " + words, due, x.ofName(1, 2));
                check.due("SIZE of that", due + 1, x.many(9));
            }
        }
    }

    /** 2. To link: "then the COMMON ones that are REACHED, by NAMES, likewise." */
    private void commonsByNames() {
        LinkHarbour x = Harbours.withObjects(10);
        for (int name = 19; name >= 0; name--) {
            x.common(name % 10, name, 1 + name, 1);
        }
        x.item(1023, 0);
        x.link(0, true);
        int address = 1;
        for (int name = 0; name < 20; name++) {
            check.due("NAME " + name, address, x.ofName(name, 2));
            address += 1 + name;
        }
        check.due("SIZE", address, x.many(9));
        x.link(19, false);
        check.due("those that are REACHED alone", 1, x.ofName(19, 2));
        check.due("SIZE of one", 21, x.many(9));
    }

    /** 2. To link: "SIZE: the address behind the last one (1 without any)." */
    private void sizeWithoutAny() {
        LinkHarbour x = Harbours.withObjects(10);
        x.link(0, true);
        check.due("without ITEMS", 1, x.many(9));
        x.item(1023, 0);
        x.link(0, true);
        check.due("without SECTIONS", 1, x.many(9));
        x.section(0, 16, false);
        x.fill(0, 40);
        x.link(0, true);
        check.due("without any that is REACHED", 1, x.many(9));
        check.due("the word at 0", 0, x.wordAt(0));
        check.outOfBounds("no word at 1", () -> x.wordAt(1));
        x.section(0, 1, true);
        x.link(0, true);
        check.due("with an empty one at 1", 1, x.many(9));
        x.fill(1, 1);
        x.link(0, true);
        check.due("with one word", 2, x.many(9));
    }

    /** 2. To link: "SIZE: the address behind the last one (1 without any)." */
    private void sizeBehindTheLastOne() {
        for (int align : ALIGNS) {
            LinkHarbour x = Harbours.withObjects(1);
            x.section(0, align, true);
            x.item(1, 0);
            x.link(0, false);
            check.due("an empty one of ALIGN " + align, align, x.many(9));
            x.fill(0, 1);
            x.link(0, false);
            check.due("of one word", align + 1, x.many(9));
            x.section(0, 16, true);
            x.link(0, false);
            int size = align == 16 ? 32 : 16;
            check.due("with an empty one of ALIGN 16 behind it", size, x.many(9));
            check.due("its address", size, x.ofSection(1, 4));
            check.due("the word ahead of it", 0, x.wordAt(size - 1));
            check.outOfBounds("it has no word", () -> x.wordAt(size));
            check.due("1 word of SIZE", 1.0 / size, x.usedPart());
            x.common(0, 0, 1, 1);
            x.link(0, false);
            check.due("a COMMON one is behind it", size, x.ofName(0, 2));
            check.due("SIZE with that", size + 1, x.many(9));
        }
    }

    /** 2. To link: "SIZE: the address behind the last one (1 without any)." */
    private void theGreatestSize() {
        LinkHarbour x = Harbours.withObjects(1);
        for (int k = 0; k < 24; k++) {
            x.section(0, 16, true);
            Harbours.fillUp(x, k, 320);
        }
        for (int name = 0; name < 20; name++) {
            x.common(0, name, 40, 16);
        }
        x.item(1, 0);
        check.due("no FAULT", 0, x.link(0, true));
        check.due("all of the greatest", 16 + 24 * 320 + 19 * 48 + 40, x.many(9));
        check.due("its last word", 0, x.wordAt(8647));
        check.outOfBounds("the one behind that", () -> x.wordAt(8648));
    }

    /** A JUMP to NAME 1, which is so many words behind it. */
    private static LinkHarbour ahead(int words, int reach) {
        LinkHarbour x = Harbours.withSections(3);
        x.jump(0, 1, false);
        int first = Math.min(words, 200);
        Harbours.fillUp(x, 0, first);
        Harbours.fillUp(x, 1, words - first);
        x.define(2, 1, false, false);
        x.bounds(reach, 9999);
        x.link(0, false);
        return x;
    }

    /**
     * 2. To link: "JUMPS: all are SHORT at first. A SHORT one REACHES, if the address behind its two words is at most
     * REACH away from that for which it stands (0 without a DEFINITION)."
     */
    private void reachAhead() {
        for (int reach : new int[] {1, 2, 3, 39, 40, 41, 499, 500}) {
            for (int words = Math.max(0, reach - 2); words <= reach + 2; words++) {
                LinkHarbour x = ahead(words, reach);
                boolean isLong = words > reach;
                String what = "REACH " + reach + " over " + words + " words";
                check.due(what, isLong ? 1 : 0, x.many(11));
                check.due(what + ": its first word", isLong ? -2 : -1, x.wordAt(1));
                check.due(what + ": its second word", isLong ? 6 + words : words, x.wordAt(2));
                check.due(what + ": SIZE", isLong ? 6 + words : 3 + words, x.many(9));
            }
        }
        check.due("what is just behind it", 0, ahead(0, 1).many(11));
    }

    /**
     * 2. To link: "A SHORT one REACHES, if the address behind its two words is at most REACH away from that for which
     * it stands (0 without a DEFINITION)."
     */
    private void reachBack() {
        for (int reach : new int[] {1, 2, 3, 39, 40, 41, 499, 500}) {
            for (int words = Math.max(0, reach - 4); words <= reach; words++) {
                LinkHarbour x = Harbours.withSections(3);
                int first = Math.min(words, 300);
                Harbours.fillUp(x, 0, first);
                Harbours.fillUp(x, 1, words - first);
                x.jump(2, 0, false);
                x.bounds(reach, 9999);
                x.link(0, false);
                boolean isLong = words + 2 > reach;
                String what = "REACH " + reach + " back over " + words + " words and its own two";
                check.due(what, isLong ? 1 : 0, x.many(11));
                check.due(what + ": its second word", isLong ? 1 : -words - 2, x.wordAt(2 + words));
            }
        }
    }

    /**
     * 2. To link: "A SHORT one REACHES, if the address behind its two words is at most REACH away from that for which
     * it stands (0 without a DEFINITION)."
     */
    private void reachToNothing() {
        for (int reach : new int[] {1, 2, 3, 4, 40, 499, 500}) {
            for (int words = Math.max(0, reach - 5); words <= reach; words++) {
                LinkHarbour x = Harbours.withSections(3);
                int first = Math.min(words, 300);
                Harbours.fillUp(x, 0, first);
                Harbours.fillUp(x, 1, words - first);
                x.jump(2, 19, true);
                x.bounds(reach, 9999);
                x.link(0, words % 2 == 0);
                boolean isLong = words + 3 > reach;
                String what = "REACH " + reach + " from " + (words + 3) + " to 0";
                check.due(what, isLong ? 1 : 0, x.many(11));
                check.due(what + ": its second word", isLong ? 0 : -words - 3, x.wordAt(2 + words));
            }
        }
    }

    /** 20 JUMPS one behind the other: each to behind the next one, and the last one over a FILL of so many words. */
    private static LinkHarbour cascade(int words) {
        LinkHarbour x = Harbours.withObjects(1);
        for (int k = 0; k < 3; k++) {
            x.section(0, 1, true);
        }
        for (int k = 0; k < 20; k++) {
            x.jump(k / 8, k, false);
            if (k > 0) {
                x.define(k / 8, k - 1, false, false);
            }
        }
        x.fill(2, words);
        x.define(2, 19, false, false);
        x.item(1, 0);
        x.bounds(2, 9999);
        return x;
    }

    /**
     * 2. To link: "All that do not are made LONG, and all is laid out anew, as long as there are such. They stay
     * LONG."
     */
    private void longAsLongAsThereAreSuch() {
        LinkHarbour none = cascade(2);
        none.link(0, false);
        check.due("the last one just REACHES, and so all do", 0, none.many(11));
        check.due("SIZE", 1 + 40 + 2, none.many(9));
        LinkHarbour all = cascade(3);
        all.link(0, false);
        check.due("the last one just does not, and so, one behind the other, all do not", 20, all.many(11));
        check.due("SIZE", 1 + 100 + 3, all.many(9));
        for (int k = 0; k < 19; k++) {
            check.due("each is LONG", -2, all.wordAt(1 + 5 * k));
            check.due("to behind the next one", 11 + 5 * k, all.wordAt(2 + 5 * k));
        }
        check.due("the last one is", 104, all.wordAt(97));
        all.bounds(4, 9999);
        all.link(0, false);
        check.due("the last one REACHES, by another REACH", 0, all.many(11));
        LinkHarbour most = Harbours.withSections(24);
        for (int k = 0; k < 192; k++) {
            most.jump(k / 8, 0, false);
        }
        most.bounds(1, 9999);
        most.link(0, false);
        check.due("as many LONG ones as there can be", 192, most.many(11));
        check.due("SIZE of these", 1 + 192 * 5, most.many(9));
    }

    /** 2. To link: "They stay LONG." */
    private void longForEver() {
        LinkHarbour x = Harbours.withObjects(1);
        x.section(0, 1, true);
        x.section(0, 16, true);
        x.jump(0, 1, false);
        x.jump(0, 1, false);
        x.define(1, 1, false, false);
        x.item(1, 0);
        x.bounds(11, 9999);
        x.link(1, false);
        check.due("13 away does not REACH, 11 away does", 1, x.many(11));
        x.bounds(10, 9999);
        x.link(1, false);
        check.due("both do not; then the second one would be 8 away, but stays LONG", 2, x.many(11));
        check.due("the second one", -2, x.wordAt(6));
        check.due("SIZE", 16, x.many(9));
        x.bounds(40, 9999);
        x.link(1, false);
        check.due("until the next link: all are SHORT at first", 0, x.many(11));
    }

    /** 2. To link: "A word: of FILL and COMMON 0" */
    private void wordsOfFillAndCommon() {
        LinkHarbour x = Harbours.withSections(1);
        for (int name = 1; name < 20; name++) {
            x.common(0, name, 40, 1);
        }
        Harbours.fillUp(x, 0, 280);
        x.word(0, 0, 49, false);
        x.link(0, true);
        check.due("SIZE", 282 + 19 * 40, x.many(9));
        for (int address = 0; address < 300; address++) {
            check.due("the word at " + address, address == 281 ? 50 : 0, x.wordAt(address));
        }
        check.due("the last word of the last COMMON one", 0, x.wordAt(281 + 19 * 40));
    }

    /**
     * 2. To link: "of a WORD: the address of its DEFINITION, and what is ADDED (what is ADDED alone, without one)"
     */
    private void wordsOfWords() {
        for (int added : new int[] {-50, -2, -1, 0, 1, 50}) {
            LinkHarbour x = Harbours.withSections(2);
            x.word(0, 0, added, false);
            x.word(0, 1, added, false);
            x.word(0, 2, added, false);
            x.word(0, 3, added, true);
            x.define(1, 1, true, true);
            x.common(0, 2, 3, 16);
            x.link(0, false);
            check.due("STRONG", 1 + added, x.wordAt(1));
            check.due("WEAK", 5 + added, x.wordAt(2));
            check.due("COMMON", 16 + added, x.wordAt(3));
            check.due("without a DEFINITION", added, x.wordAt(4));
        }
    }

    /**
     * 2. To link: "of a JUMP that is SHORT: -1, then the address that it stands for, less its own address, less 2"
     */
    private void wordsOfShortJumps() {
        LinkHarbour x = Harbours.withSections(1);
        x.jump(0, 1, false);
        x.define(0, 1, false, false);
        x.jump(0, 1, false);
        x.jump(0, 0, false);
        x.jump(0, 19, true);
        x.jump(0, 2, false);
        x.fill(0, 1);
        x.define(0, 2, false, false);
        x.link(0, false);
        int[] due = {0, -1, 0, -1, -2, -1, -6, -1, -9, -1, 1, 0};
        for (int address = 0; address < due.length; address++) {
            check.due("the word at " + address, due[address], x.wordAt(address));
        }
        check.outOfBounds("no more words", () -> x.wordAt(due.length));
    }

    /** 2. To link: "LONG: -2, the address, 0, 0, 0." */
    private void wordsOfLongJumps() {
        LinkHarbour x = Harbours.withSections(1);
        x.fill(0, 1);
        x.jump(0, 0, false);
        x.jump(0, 19, true);
        x.jump(0, 1, false);
        x.fill(0, 2);
        x.define(0, 1, false, false);
        x.bounds(1, 9999);
        x.link(0, false);
        int[] due = {0, 0, -2, 1, 0, 0, 0, -2, 0, 0, 0, 0, -2, 19, 0, 0, 0, 0, 0};
        for (int address = 0; address < due.length; address++) {
            check.due("the word at " + address, due[address], x.wordAt(address));
        }
        check.outOfBounds("no more words", () -> x.wordAt(due.length));
    }

    /** 2. To link: "A word between two is 0." */
    private void wordsBetween() {
        LinkHarbour x = Harbours.withObjects(1);
        for (int k = 0; k < 3; k++) {
            x.section(0, 16, true);
            x.word(k, 1, 50, true);
        }
        x.item(1, 0);
        for (int times = 0; times < 2; times++) {
            x.link(0, false);
            for (int address = 0; address < 49; address++) {
                check.due("the word at " + address, address == 16 || address == 32 || address == 48 ? 50 : 0,
                        x.wordAt(address));
            }
            x.fill(1, 1);
        }
        LinkHarbour y = Harbours.withSections(3);
        for (int k = 0; k < 8; k++) {
            y.word(0, 0, 40, false);
            y.word(1, 0, 41, false);
        }
        y.link(0, false);
        y.clear();
        y.object();
        y.section(1, 16, true);
        y.word(3, 19, 9, true);
        y.item(2, 0);
        y.link(0, false);
        for (int address = 0; address < 16; address++) {
            check.due("also where an earlier link had a word: " + address, 0, y.wordAt(address));
        }
        check.due("its only word", 9, y.wordAt(16));
    }

    /** One WORD at address 1 to NAME 1, which is at address 1 + words, and this LIMIT. */
    private static LinkHarbour oneWord(int words, int added, int limit) {
        LinkHarbour x = Harbours.withSections(1);
        x.word(0, 1, added, false);
        Harbours.fillUp(x, 0, words - 1);
        x.define(0, 1, false, false);
        x.bounds(40, limit);
        return x;
    }

    /** 2. To link: "FAULT 4, if that is below 0, or above LIMIT, but if it is an IMPORT" */
    private void belowZero() {
        for (int words = 48; words <= 51; words++) {
            LinkHarbour x = oneWord(words, -50, 9999);
            check.due("a word of " + (1 + words - 50), words < 49 ? 1 : 0, x.link(0, false));
            check.due("it is that word, nevertheless", 1 + words - 50, x.wordAt(1));
            check.due("SHARED: likewise", words < 49 ? 1 : 0, x.link(0, true));
        }
        LinkHarbour y = Harbours.withSections(1);
        y.word(0, 0, -1, false);
        check.due("0", 0, y.link(0, false));
        y.word(0, 0, -2, true);
        check.due("-1", 1, y.link(0, false));
        check.due("FAULT 4", 4, y.fault(0, 0));
        check.due("its PIECE", 1, y.fault(0, 3));
    }

    /** 2. To link: "FAULT 4, if that is below 0, or above LIMIT, but if it is an IMPORT" */
    private void aboveLimit() {
        for (int words : new int[] {1, 2, 50, 200}) {
            for (int added : new int[] {0, 1, 50}) {
                int word = 1 + words + added;
                check.due("a word above LIMIT by 1", 1, oneWord(words, added, word - 1).link(0, false));
                check.due("a word of LIMIT", 0, oneWord(words, added, word).link(0, false));
                check.due("a word below LIMIT by 1", 0, oneWord(words, added, word + 1).link(0, false));
                check.due("SHARED: above", 1, oneWord(words, added, word - 1).link(0, true));
                check.due("SHARED: not above", 0, oneWord(words, added, word).link(0, true));
            }
        }
        check.due("LIMIT 0: a word of 0", 0, oneWord(1, -2, 0).link(0, false));
        check.due("LIMIT 0: a word of 1", 1, oneWord(1, -1, 0).link(0, false));
        check.due("LIMIT 0: a word of -1", 1, oneWord(1, -3, 0).link(0, false));
    }

    /**
     * 2. To link: "of a WORD: the address of its DEFINITION, and what is ADDED (what is ADDED alone, without one):
     * FAULT 4, if that is below 0, or above LIMIT, but if it is an IMPORT"
     */
    private void addedAlone() {
        int[][] rows = {{-50, 9999, 1}, {-1, 9999, 1}, {0, 9999, 0}, {1, 9999, 0}, {50, 9999, 0}, {50, 50, 0},
            {50, 49, 1}, {1, 1, 0}, {1, 0, 1}, {0, 0, 0}};
        for (int[] row : rows) {
            for (int weak = 0; weak < 2; weak++) {
                LinkHarbour x = Harbours.withSections(1);
                x.word(0, 19, row[0], weak == 1);
                x.bounds(40, row[1]);
                String what = "ADDED " + row[0] + ", LIMIT " + row[1] + ", weak " + weak;
                check.due(what, row[2] + 1 - weak, x.link(0, false));
                if (row[2] == 1) {
                    check.due(what + ": FAULT 4 behind FAULT 3", 4, x.fault(1 - weak, 0));
                }
            }
        }
    }

    /** 2. To link: "FAULT 4, if that is below 0, or above LIMIT, but if it is an IMPORT" */
    private void notIfItIsAnImport() {
        for (int added : new int[] {-50, -1, 0, 1, 50}) {
            for (int weak = 0; weak < 2; weak++) {
                LinkHarbour x = Harbours.withSections(1);
                x.word(0, 19, added, weak == 1);
                x.bounds(40, 0);
                check.due("an IMPORT with " + added, 0, x.link(0, true));
                check.due("its word", added, x.wordAt(1));
                check.due("no IMPORT, as it is not SHARED", 1 - weak + (added == 0 ? 0 : 1), x.link(0, false));
            }
        }
    }

    /** 2. To link: "of a WORD: the address of its DEFINITION, and what is ADDED" (and of that alone FAULT 4 is told) */
    private void noFaultOfJumps() {
        LinkHarbour x = Harbours.withSections(1);
        x.jump(0, 0, false);
        x.jump(0, 1, false);
        x.fill(0, 3);
        x.define(0, 1, false, false);
        x.bounds(2, 0);
        check.due("a JUMP back and ahead, above LIMIT and below 0", 0, x.link(0, false));
        check.due("one of these is LONG", 1, x.many(11));
        x.bounds(40, 0);
        check.due("both SHORT", 0, x.link(0, false));
        check.due("none is LONG", 0, x.many(11));
    }

    private void faultDue(LinkHarbour x, int k, int... parts) {
        for (int what = 0; what < 4; what++) {
            check.due("FAULT " + k + ", " + what, parts[what], x.fault(k, what));
        }
    }

    /**
     * 2. To link: "FAULTS are told in this order: 1 by NAMES; 2; 3 and 4 SECTION by SECTION as laid out, PIECE by
     * PIECE (of one PIECE 3 ahead of 4)."
     */
    private void orderOfFaults() {
        LinkHarbour x = Harbours.withObjects(2);
        x.section(0, 1, true);
        x.section(1, 1, true);
        x.section(0, 1, true);
        for (int name : new int[] {19, 0}) {
            x.define(0, name, false, false);
            x.define(1, name, false, false);
        }
        x.word(0, 1, -1, false);
        x.fill(0, 1);
        x.word(0, 1, 0, false);
        x.word(1, 0, -50, false);
        x.jump(1, 2, false);
        x.word(2, 1, -1, true);
        x.item(2, 0);
        x.item(1, 0);
        check.due("FAULTS", 9, x.link(18, false));
        faultDue(x, 0, 1, 0, -1, -1);
        faultDue(x, 1, 1, 19, -1, -1);
        faultDue(x, 2, 2, 18, -1, -1);
        faultDue(x, 3, 4, 0, 1, 0);
        faultDue(x, 4, 3, 2, 1, 1);
        faultDue(x, 5, 3, 1, 0, 0);
        faultDue(x, 6, 4, 1, 0, 0);
        faultDue(x, 7, 3, 1, 0, 2);
        faultDue(x, 8, 4, 1, 2, 0);
        check.outOfBounds("no FAULT behind these", () -> x.fault(9, 0));
    }

    /**
     * 2. To link: "FAULTS are told in this order: 1 by NAMES; 2; 3 and 4 SECTION by SECTION as laid out, PIECE by
     * PIECE (of one PIECE 3 ahead of 4)."
     */
    private void asManyFaultsAsCanBe() {
        LinkHarbour x = Harbours.withObjects(2);
        for (int section = 0; section < 24; section++) {
            x.section(section % 2, 1, true);
            for (int k = 0; k < 8; k++) {
                x.word(section, 19, -1, false);
            }
        }
        for (int name = 0; name < 19; name++) {
            x.define(0, name, false, false);
            x.define(1, name, false, false);
        }
        x.item(2, 0);
        x.item(1, 0);
        check.due("19 of 1, one of 2, and of each WORD 3 and 4", 19 + 1 + 2 * 192, x.link(19, false));
        for (int name = 0; name < 19; name++) {
            faultDue(x, name, 1, name, -1, -1);
        }
        faultDue(x, 19, 2, 19, -1, -1);
        faultDue(x, 20, 3, 19, 1, 0);
        faultDue(x, 21, 4, 19, 1, 0);
        faultDue(x, 19 + 192, 4, 19, 23, 7);
        faultDue(x, 20 + 192, 3, 19, 0, 0);
        faultDue(x, 402, 3, 19, 22, 7);
        faultDue(x, 403, 4, 19, 22, 7);
        check.outOfBounds("no FAULT behind these", () -> x.fault(404, 0));
        check.due("as many", 404, x.many(10));
        check.due("SHARED: 19 of 1, and one of 2", 20, x.link(19, true));
    }

    /**
     * Promise 12: "`reach`: REACH from now on - `limit`: LIMIT"; Promise 12: "Returns REACH before."
     */
    private void promise12() {
        LinkHarbour x = new LinkHarbour();
        int before = 40;
        for (int reach : new int[] {1, 2, 499, 500}) {
            for (int limit : new int[] {0, 1, 9998, 9999}) {
                check.due("REACH before", before, x.bounds(reach, limit));
                before = reach;
            }
        }
        for (int reach : Harbours.outside(1, 500)) {
            check.illegalArgument("REACH " + reach, () -> x.bounds(reach, 5));
        }
        for (int limit : Harbours.outside(0, 9999)) {
            check.illegalArgument("LIMIT " + limit, () -> x.bounds(5, limit));
        }
        check.due("REACH behind refused ones", 500, x.bounds(1, 0));
        LinkHarbour y = Harbours.withSections(3);
        y.word(0, 1, 0, false);
        Harbours.fillUp(y, 0, 240);
        Harbours.fillUp(y, 1, 257);
        y.define(2, 1, false, false);
        y.jump(2, 0, false);
        y.bounds(500, 499);
        check.due("a word of LIMIT", 0, y.link(0, false));
        check.due("a JUMP over REACH", 0, y.many(11));
        y.bounds(499, 498);
        check.due("the link ahead of it stays: FAULTS", 0, y.many(10));
        check.due("the link ahead of it stays: LONG ones", 0, y.many(11));
        check.due("LIMIT from now on", 1, y.link(0, false));
        check.due("REACH from now on", 1, y.many(11));
    }

    /** Promise 13: "Links."; Promise 13: "Returns how many FAULTS there are." */
    private void promise13() {
        LinkHarbour x = Harbours.withSections(1);
        check.due("none", 0, x.link(0, false));
        check.due("many(10) says so", 0, x.many(10));
        check.due("one", 1, x.link(19, false));
        check.due("many(10) says so", 1, x.many(10));
        x.word(0, 18, -1, false);
        check.due("two", 2, x.link(0, false));
        check.due("three", 3, x.link(19, false));
        check.due("SHARED: one", 1, x.link(19, true));
        check.due("SHARED: none", 0, x.link(0, true));
        check.due("many(10) says so", 0, x.many(10));
    }

    /**
     * Promise 14: "of the latest link (as it was then): 3 1 if it was REACHED, otherwise 0, 4 its address (NONE, if it
     * was not), 5 how many words it had (0), 6 how many of its JUMPS were LONG (0)"
     */
    private void promise14AheadOfAllLinks() {
        LinkHarbour x = Harbours.withSections(24);
        for (int section = 0; section < 24; section++) {
            x.jump(section, 0, false);
            int[] due = {0, 1, 1, 0, -1, 0, 0};
            for (int what = 0; what <= 6; what++) {
                check.due("ahead of all links: " + what, due[what], x.ofSection(section, what));
            }
        }
    }

    private void sectionDue(LinkHarbour x, String when, int section, int... due) {
        for (int what = 0; what <= 6; what++) {
            check.due(when + ": SECTION " + section + ", " + what, due[what], x.ofSection(section, what));
        }
    }

    /**
     * Promise 14: "0 its OBJECT, 1 its ALIGN, 2 how many PIECES; of the latest link (as it was then): 3 1 if it was
     * REACHED, otherwise 0, 4 its address (NONE, if it was not), 5 how many words it had (0), 6 how many of its JUMPS
     * were LONG (0)"; Promise 14: "Returns that."
     */
    private void promise14() {
        LinkHarbour x = Harbours.withObjects(10);
        for (int k = 0; k < 22; k++) {
            x.section(k % 9, 1, false);
        }
        x.section(9, 16, true);
        x.section(9, 2, true);
        for (int k = 0; k < 8; k++) {
            x.jump(22, 19, true);
            x.fill(23, 40);
            x.jump(0, 19, true);
        }
        x.item(1023, 0);
        x.bounds(1, 9999);
        x.link(0, false);
        sectionDue(x, "not REACHED", 0, 0, 1, 8, 0, -1, 0, 0);
        sectionDue(x, "8 LONG JUMPS", 22, 9, 16, 8, 1, 16, 40, 8);
        sectionDue(x, "8 FILLS", 23, 9, 2, 8, 1, 56, 320, 0);
        x.bounds(500, 9999);
        sectionDue(x, "as it was then", 22, 9, 16, 8, 1, 16, 40, 8);
        x.link(0, false);
        sectionDue(x, "8 SHORT JUMPS", 22, 9, 16, 8, 1, 16, 16, 0);
        sectionDue(x, "behind these", 23, 9, 2, 8, 1, 32, 320, 0);
        x.clear();
        sectionDue(x, "also if it is in no ITEM any more", 22, 9, 16, 8, 1, 16, 16, 0);
        x.link(0, false);
        sectionDue(x, "by the latest link", 22, 9, 16, 8, 0, -1, 0, 0);
        LinkHarbour y = Harbours.withSections(1);
        y.link(0, false);
        sectionDue(y, "an empty one", 0, 0, 1, 0, 1, 1, 0, 0);
        y.fill(0, 9);
        y.section(0, 8, true);
        sectionDue(y, "PIECES as they are, and words as they were", 0, 0, 1, 1, 1, 1, 0, 0);
        sectionDue(y, "one that came later", 1, 0, 8, 0, 0, -1, 0, 0);
    }

    /** Promise 15: "Returns that; NONE, NONE, NONE, 0, 0 ahead of all links." */
    private void promise15AheadOfAllLinks() {
        LinkHarbour empty = new LinkHarbour();
        LinkHarbour x = Harbours.withSections(1);
        x.word(0, 0, 0, false);
        x.common(0, 19, 3, 1);
        for (int name = 0; name < 20; name++) {
            int[] due = {-1, -1, -1, 0, 0};
            for (int what = 0; what <= 4; what++) {
                check.due("of a new one: " + what, due[what], empty.ofName(name, what));
                check.due("ahead of all links: " + what, due[what], x.ofName(name, what));
            }
        }
    }

    private void nameDue(LinkHarbour x, String when, int name, int... due) {
        for (int what = 0; what <= 4; what++) {
            check.due(when + ": NAME " + name + ", " + what, due[what], x.ofName(name, what));
        }
    }

    /**
     * Promise 15: "by the latest link: 0 what its DEFINITION is: 0 STRONG, 1 COMMON, 2 WEAK (NONE), 1 the OBJECT of
     * that (NONE without one, and if it is COMMON), 2 its address (NONE without one, or if what it is in, or it, as a
     * COMMON one, was not REACHED), 3 1 if it is an IMPORT, otherwise 0, 4 how many REFERENCES to it are in what was
     * REACHED"
     */
    private void promise15() {
        LinkHarbour x = Harbours.withObjects(10);
        x.section(9, 1, true);
        x.section(9, 1, false);
        x.fill(0, 40);
        x.define(0, 0, false, false);
        x.define(0, 19, true, false);
        x.common(9, 1, 40, 1);
        x.common(9, 2, 1, 16);
        x.define(1, 3, false, true);
        x.define(1, 4, true, true);
        x.word(0, 0, 0, true);
        x.word(0, 1, 0, false);
        x.word(0, 5, 0, true);
        x.jump(0, 5, true);
        x.word(1, 0, 0, false);
        x.word(1, 5, 0, false);
        x.item(512, 0);
        x.link(0, false);
        nameDue(x, "STRONG, at a PLACE behind a FILL", 0, 0, 9, 41, 0, 1);
        nameDue(x, "WEAK", 19, 2, 9, 41, 0, 0);
        nameDue(x, "COMMON, REACHED, behind a LONG JUMP", 1, 1, -1, 49, 0, 1);
        nameDue(x, "COMMON, not REACHED", 2, 1, -1, -1, 0, 0);
        nameDue(x, "STRONG, not REACHED", 3, 0, 9, -1, 0, 0);
        nameDue(x, "WEAK, not REACHED", 4, 2, 9, -1, 0, 0);
        nameDue(x, "without a DEFINITION", 5, -1, -1, -1, 0, 2);
        nameDue(x, "without anything", 6, -1, -1, -1, 0, 0);
        x.link(0, true);
        nameDue(x, "SHARED: an IMPORT", 5, -1, -1, -1, 1, 2);
        nameDue(x, "SHARED: no IMPORT", 6, -1, -1, -1, 0, 0);
        nameDue(x, "SHARED: COMMON", 2, 1, -1, 96, 0, 0);
        x.link(3, true);
        nameDue(x, "REFERENCES in both", 5, -1, -1, -1, 1, 3);
        nameDue(x, "REFERENCES of both", 0, 0, 9, 41, 0, 2);
        x.define(0, 5, false, false);
        x.clear();
        nameDue(x, "of the latest link", 5, -1, -1, -1, 1, 3);
        x.link(3, true);
        nameDue(x, "of a link of nothing", 0, -1, -1, -1, 0, 0);
    }

    /**
     * Promise 16: "`k`: a number, from 0"; Promise 16: "`what`: of that FAULT of the latest link: 0 which one, 1 its
     * NAME, 2 its SECTION (NONE for 1 and 2), 3 the place of its PIECE (likewise)"; Promise 16: "Returns that."
     */
    private void promise16() {
        LinkHarbour x = Harbours.withObjects(2);
        for (int section = 0; section < 24; section++) {
            x.section(section / 23, 1, section == 23);
        }
        x.define(0, 0, false, false);
        x.define(23, 0, false, false);
        for (int k = 0; k < 7; k++) {
            x.fill(23, 1);
        }
        x.word(23, 19, -50, false);
        x.item(3, 0);
        check.outOfBounds("ahead of all links", () -> x.fault(0, 0));
        check.due("FAULTS", 4, x.link(18, false));
        faultDue(x, 0, 1, 0, -1, -1);
        faultDue(x, 1, 2, 18, -1, -1);
        faultDue(x, 2, 3, 19, 23, 7);
        faultDue(x, 3, 4, 19, 23, 7);
        for (int k : Harbours.outside(0, 3)) {
            check.outOfBounds("FAULT " + k, () -> x.fault(k, 0));
        }
        for (int what : Harbours.outside(0, 3)) {
            check.illegalArgument("what " + what, () -> x.fault(3, what));
        }
        x.clear();
        faultDue(x, 3, 4, 19, 23, 7);
        check.due("one FAULT", 1, x.link(18, false));
        check.outOfBounds("not of an earlier link", () -> x.fault(1, 0));
        x.item(1, 0);
        check.due("no FAULT", 0, x.link(0, false));
        check.outOfBounds("not of an earlier link either", () -> x.fault(0, 0));
    }

    /** Promise 17: "`address`: an address of the latest link, from 0"; Promise 17: "Returns the word there." */
    private void promise17() {
        LinkHarbour x = Harbours.withSections(1);
        check.outOfBounds("0 without a link", () -> x.wordAt(0));
        x.link(0, false);
        check.due("0, SIZE 1", 0, x.wordAt(0));
        check.outOfBounds("1, SIZE 1", () -> x.wordAt(1));
        check.outOfBounds("-1", () -> x.wordAt(-1));
        for (int k = 0; k < 8; k++) {
            int size = 2 + k;
            x.word(0, 0, 10 + k, false);
            check.outOfBounds("not of the latest link", () -> x.wordAt(size - 1));
            x.link(0, false);
            check.due("the last address", 11 + k, x.wordAt(1 + k));
            check.due("the first address", 0, x.wordAt(0));
            for (int address : Harbours.outside(0, size - 1)) {
                check.outOfBounds("wordAt(" + address + "), SIZE " + size, () -> x.wordAt(address));
            }
        }
    }

    /** Promise 17: "Throws `IndexOutOfBoundsException` if it is below 0, or not below SIZE, or there was no link" */
    private void promise17OfTheLatestLink() {
        for (int size : new int[] {63, 64, 65, 127, 128, 129, 255, 256, 257}) {
            LinkHarbour x = Harbours.withSections(1);
            Harbours.fillUp(x, 0, size - 2);
            x.word(0, 0, 7, false);
            x.link(0, false);
            check.due("the last word", 8, x.wordAt(size - 1));
            check.outOfBounds("behind it", () -> x.wordAt(size));
            x.clear();
            x.link(0, false);
            check.due("SIZE 1", 0, x.wordAt(0));
            check.outOfBounds("its last word is no more", () -> x.wordAt(size - 1));
            x.item(1, 0);
            x.link(0, false);
            check.due("the last word again", 8, x.wordAt(size - 1));
            check.due("the word ahead of it", 0, x.wordAt(size - 2));
        }
    }
}
