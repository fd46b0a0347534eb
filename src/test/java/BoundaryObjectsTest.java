/**
 * The edges that the document names in "What it is", "Terms", "1. Objects" and promises 1 to 11: each test
 * stands at the edge itself and just beyond it, and says which sentence it holds. Refused calls are looked at in
 * RefusalsTest too.
 */
public final class BoundaryObjectsTest {
    private static final int[] ALIGNS = {1, 2, 4, 8, 16};

    private final Check check = new Check("BoundaryObjectsTest");

    public static void main(String[] args) {
        BoundaryObjectsTest test = new BoundaryObjectsTest();
        test.face();
        test.terms();
        test.objects();
        test.promises();
        test.check.end();
    }

    private void face() {
        opened505Times();
        digestedAsOftenAsCanBe();
        linkedAsOftenAsCanBe();
        rebuiltAsOftenAsCanBe();
    }

    private void terms() {
        noneIsMinusOne();
        namesInObjects();
        namesInLinks();
        namesInLibraries();
        alignsOfSections();
        alignsOfCommons();
        setsOfObjects();
        setsOfLibraries();
    }

    private void objects() {
        atMost10Objects();
        atMost24Sections();
        keptOrNot();
        atMost8Pieces();
        fillOf1To40Words();
        wordOf1Word();
        addedOfMinus50To50();
        jumpOf2Or5Words();
        references();
        definesOnceAtMost();
        placeIsTheEndAsItIsThen();
        placeBehindAll();
        commonOf1To40();
        hidden();
        atMost8Items();
        inNoOtherItem();
        kindsOfItems();
        secondKindAsTheFirstOne();
        secondKindBehindAPlainOne();
        groupsOfTwoAndMore();
        inNoItemNotLinked();
    }

    private void promises() {
        promise1();
        promise2();
        promise3();
        promises4To6();
        promise7();
        promise8();
        promise9();
        promise10();
        promise11Sections();
        promise11Names();
        promise11Item();
        promise11Taken();
    }

    /**
     * What it is: "An object is used for at most 512 calls after it has been made; what later calls answer is
     * free."
     */
    private void opened505Times() {
        LinkHarbour x = Harbours.withSections(1);
        x.link(0, true);
        x.publish(0);
        for (int calls = 6; calls < 511; calls++) {
            x.open(0, false);
        }
        check.due("the 512th call: COUNT", 505, x.ofLibrary(0, 4));
        LinkHarbour y = Harbours.withSections(1);
        y.link(0, true);
        y.publish(0);
        for (int times = 0; times < 252; times++) {
            y.open(0, times % 2 == 0);
        }
        for (int times = 0; times < 251; times++) {
            check.due("close() of a COUNT above 1", 0, y.close(0));
        }
        check.due("the 510th call: close() of COUNT 1", 1, y.close(0));
        check.illegalState("the 511th call: close() of COUNT 0", () -> y.close(0));
        check.due("the 512th call", 0, y.many(4));
    }

    /**
     * What it is: "An object is used for at most 512 calls after it has been made; what later calls answer is
     * free."
     */
    private void digestedAsOftenAsCanBe() {
        LinkHarbour x = Harbours.withLibraries(2, 4, 8, 16, 32, 31);
        x.open(0, true);
        long first = x.digest();
        for (int calls = 13; calls < 512; calls++) {
            check.due("digest() again", first, x.digest());
        }
    }

    /**
     * What it is: "An object is used for at most 512 calls after it has been made; what later calls answer is
     * free."
     */
    private void linkedAsOftenAsCanBe() {
        LinkHarbour x = Harbours.withSections(24);
        for (int section = 0; section < 24; section++) {
            x.jump(section, 0, false);
            x.fill(section, 40);
        }
        x.bounds(1, 9999);
        x.link(0, true);
        long first = x.digest();
        for (int calls = 79; calls < 511; calls += 2) {
            check.due("link() again", 0, x.link(0, true));
            check.due("its digest()", first, x.digest());
        }
    }

    /**
     * What it is: "An object is used for at most 512 calls after it has been made; what later calls answer is
     * free."
     */
    private void rebuiltAsOftenAsCanBe() {
        LinkHarbour x = Harbours.withObjects(10);
        for (int calls = 10; calls < 512; calls += 2) {
            check.due("item() behind clear()", 0, x.item(1023, calls % 3));
            check.due("clear() again", 1, x.clear());
        }
    }

    /** Terms: "NONE is -1." */
    private void noneIsMinusOne() {
        LinkHarbour x = Harbours.withObjectsAndSections(1);
        check.due("NONE: in no ITEM", -1, x.ofObject(0, 2));
        check.due("NONE: not TAKEN", -1, x.ofObject(0, 3));
        check.due("NONE: no address", -1, x.ofSection(0, 4));
        for (int what = 0; what <= 2; what++) {
            check.due("NONE: no DEFINITION: " + what, -1, x.ofName(0, what));
        }
        x.link(0, true);
        check.due("NONE: no SECTION of FAULT 2", -1, x.fault(0, 2));
        check.due("NONE: no PIECE of FAULT 2", -1, x.fault(0, 3));
        LinkHarbour y = Harbours.withImports(0, 0);
        check.due("NONE: no EXPORT", -1, y.ofBinding(0, 1, 0));
        check.due("NONE: not BOUND", -1, y.ofBinding(0, 1, 2));
        check.due("NONE: nowhere", -1, y.ofBinding(0, 1, 3));
        check.due("NONE: it would not be BOUND", -1, y.wouldBind(0, 1));
        for (int what = 5; what <= 7; what++) {
            check.due("NONE: not LOADED: " + what, -1, y.ofLibrary(0, what));
        }
        y.open(0, false);
        check.due("NONE: call() without one", -1, y.call(0, 1));
    }

    /** Terms: "NAMES are 0 to 19." */
    private void namesInObjects() {
        LinkHarbour x = Harbours.withObjectsAndSections(2);
        check.due("word() of the first NAME", 0, x.word(0, 0, 0, false));
        check.due("word() of the last NAME", 1, x.word(0, 19, 0, false));
        check.due("jump() of the first NAME", 2, x.jump(0, 0, false));
        check.due("jump() of the last NAME", 3, x.jump(0, 19, false));
        check.due("define() of the first NAME", 4, x.define(0, 0, false, false));
        check.due("define() of the last NAME", 4, x.define(0, 19, false, false));
        check.due("common() of the first NAME", 1, x.common(1, 0, 1, 1));
        check.due("common() of the last NAME", 2, x.common(1, 19, 1, 1));
        for (int name : Harbours.outside(0, 19)) {
            check.illegalArgument("word() of " + name, () -> x.word(0, name, 0, false));
            check.illegalArgument("jump() of " + name, () -> x.jump(0, name, false));
            check.illegalArgument("define() of " + name, () -> x.define(0, name, false, false));
            check.illegalArgument("common() of " + name, () -> x.common(1, name, 1, 1));
        }
        check.due("PIECES behind refused ones", 4, x.ofSection(0, 2));
        check.due("NAMES behind refused ones", 2, x.ofObject(0, 1));
        check.due("COMMON ones behind refused ones", 2, x.ofObject(1, 1));
    }

    /** Terms: "NAMES are 0 to 19." */
    private void namesInLinks() {
        for (int name = 0; name < 20; name++) {
            LinkHarbour x = Harbours.withObjectsAndSections(1);
            x.fill(0, 1 + name);
            x.define(0, name, false, false);
            x.item(1, 0);
            check.due("link() of " + name, 0, x.link(name, false));
            check.due("ofName() of " + name, 2 + name, x.ofName(name, 2));
        }
        LinkHarbour y = Harbours.withSections(1);
        y.link(0, false);
        for (int name : Harbours.outside(0, 19)) {
            check.illegalArgument("link() of " + name, () -> y.link(name, false));
            for (int what = 0; what <= 4; what++) {
                int of = what;
                check.illegalArgument("ofName() of " + name, () -> y.ofName(name, of));
            }
        }
    }

    /** Terms: "NAMES are 0 to 19." */
    private void namesInLibraries() {
        for (int name = 0; name < 20; name++) {
            LinkHarbour x = Harbours.withObjectsAndSections(2);
            x.define(0, name, false, false);
            x.word(1, name, 0, false);
            x.define(1, (name + 1) % 20, false, false);
            x.item(1, 0);
            x.link(name, true);
            x.publish(0);
            x.clear();
            x.item(2, 0);
            x.link((name + 1) % 20, true);
            x.publish(1);
            x.open(1, false);
            check.due("ofBinding() of " + name, 1, x.ofBinding(1, name, 1));
            check.due("wouldBind() of " + name, 0, x.wouldBind(1, name));
            check.due("call() of " + name, 0, x.call(1, name));
        }
        LinkHarbour y = Harbours.withImports(0, 0);
        y.open(0, false);
        for (int name : Harbours.outside(0, 19)) {
            check.illegalArgument("call() of " + name, () -> y.call(0, name));
            check.illegalArgument("ofBinding() of " + name, () -> y.ofBinding(0, name, 0));
            check.illegalArgument("wouldBind() of " + name, () -> y.wouldBind(0, name));
        }
    }

    private static boolean isAlign(int number) {
        for (int align : ALIGNS) {
            if (align == number) {
                return true;
            }
        }
        return false;
    }

    /** Terms: "ALIGNS are 1, 2, 4, 8 and 16." */
    private void alignsOfSections() {
        LinkHarbour x = Harbours.withObjects(1);
        for (int number = -17; number <= 33; number++) {
            int align = number;
            if (isAlign(number)) {
                check.due("ALIGN " + number, x.many(1), x.section(0, number, true));
                check.due("it is so", number, x.ofSection(x.many(1) - 1, 1));
            } else {
                check.illegalArgument("no ALIGN " + number, () -> x.section(0, align, true));
            }
        }
        check.due("SECTIONS behind refused ones", 5, x.many(1));
    }

    /** Terms: "ALIGNS are 1, 2, 4, 8 and 16." */
    private void alignsOfCommons() {
        LinkHarbour x = Harbours.withObjects(1);
        for (int number = -17; number <= 33; number++) {
            int align = number;
            int name = x.ofObject(0, 1);
            if (isAlign(number)) {
                check.due("ALIGN " + number, name + 1, x.common(0, name, 1, number));
            } else {
                check.illegalArgument("no ALIGN " + number, () -> x.common(0, name, 1, align));
            }
        }
        check.due("NAMES behind refused ones", 5, x.ofObject(0, 1));
    }

    /** Terms: "Sets are told as numbers: the sum of 2^k for each k in them." */
    private void setsOfObjects() {
        for (int object = 0; object < 10; object++) {
            LinkHarbour x = Harbours.withObjects(10);
            check.due("a set of one", 0, x.item(1 << object, 0));
            for (int other = 0; other < 10; other++) {
                check.due(other + " in the set of " + object, other == object ? 0 : -1, x.ofObject(other, 2));
            }
        }
        LinkHarbour all = Harbours.withObjects(10);
        check.illegalArgument("a set with 10 alone", () -> all.item(1024, 0));
        check.illegalArgument("a set with 0 to 10", () -> all.item(2047, 0));
        check.illegalArgument("an empty set", () -> all.item(0, 0));
        check.due("a set of all", 0, all.item(1023, 0));
        for (int object = 0; object < 10; object++) {
            check.due(object + " in the set of all", 0, all.ofObject(object, 2));
        }
    }

    /** Terms: "Sets are told as numbers: the sum of 2^k for each k in them." */
    private void setsOfLibraries() {
        LinkHarbour x = Harbours.withLibraries(0, 0, 0, 0, 0, 1 + 2 + 4 + 8 + 16);
        for (int library = 0; library < 5; library++) {
            x.open(library, false);
            check.due("the set of one that would go", 1 << library, x.goes(library));
            x.close(library);
        }
        x.open(5, false);
        check.due("the set of all that would go", 63, x.goes(5));
        x.open(0, false);
        x.open(4, false);
        check.due("the set of all but the first and the fifth", 2 + 4 + 8 + 32, x.goes(5));
        check.due("the set of none that would go", 0, x.goes(0));
    }

    /** 1. Objects: "OBJECTS: at most 10, numbered from 0." */
    private void atMost10Objects() {
        LinkHarbour x = new LinkHarbour();
        check.outOfBounds("OBJECT 0 of none", () -> x.ofObject(0, 0));
        for (int k = 0; k < 10; k++) {
            int next = k + 1;
            check.due("object() by number", k, x.object());
            check.due("OBJECT " + k + " is there", 0, x.ofObject(k, 0));
            check.outOfBounds("OBJECT " + next + " is not", () -> x.ofObject(next, 0));
            check.due("OBJECTS", next, x.many(0));
        }
        check.illegalState("the 11th", x::object);
        check.due("OBJECTS behind a refused one", 10, x.many(0));
        check.outOfBounds("OBJECT 10", () -> x.ofObject(10, 0));
    }

    /**
     * 1. Objects: "SECTIONS: at most 24, numbered from 0, each of an OBJECT, with an ALIGN, and KEPT or not."
     */
    private void atMost24Sections() {
        LinkHarbour one = Harbours.withObjects(1);
        LinkHarbour many = Harbours.withObjects(10);
        check.outOfBounds("SECTION 0 of none", () -> one.ofSection(0, 0));
        for (int k = 0; k < 24; k++) {
            int next = k + 1;
            check.due("section() of one OBJECT by number", k, one.section(0, ALIGNS[k % 5], k % 2 == 0));
            check.due("section() of many OBJECTS by number", k, many.section(9 - k % 10, ALIGNS[k % 5], k % 2 == 0));
            check.outOfBounds("SECTION " + next, () -> many.ofSection(next, 0));
        }
        for (int k = 0; k < 24; k++) {
            check.due("its OBJECT", 9 - k % 10, many.ofSection(k, 0));
            check.due("its ALIGN", ALIGNS[k % 5], many.ofSection(k, 1));
        }
        check.illegalState("the 25th of one OBJECT", () -> one.section(0, 1, true));
        check.illegalState("the 25th of an OBJECT that has 2", () -> many.section(0, 1, true));
        check.due("SECTIONS behind refused ones", 24, one.many(1));
        check.outOfBounds("SECTION 24", () -> one.ofSection(24, 0));
    }

    /**
     * 1. Objects: "SECTIONS: at most 24, numbered from 0, each of an OBJECT, with an ALIGN, and KEPT or not."
     */
    private void keptOrNot() {
        LinkHarbour x = Harbours.withObjects(1);
        for (int k = 0; k < 24; k++) {
            x.section(0, 1, k == 0 || k == 23);
        }
        x.item(1, 0);
        x.link(0, false);
        for (int k = 0; k < 24; k++) {
            check.due("KEPT: " + k, k == 0 || k == 23 ? 1 : 0, x.ofSection(k, 3));
        }
    }

    /**
     * 1. Objects: "A SECTION is a row of at most 8 PIECES: FILL (1 to 40 words), WORD (1 word; a NAME, and a number
     * ADDED to it, -50 to 50), or JUMP (to a NAME; SHORT: 2 words, LONG: 5 words)."
     */
    private void atMost8Pieces() {
        for (int last = 0; last < 3; last++) {
            LinkHarbour x = Harbours.withSections(24);
            for (int k = 0; k < 7; k++) {
                check.due("PIECE of the last SECTION", k, x.fill(23, 1));
                check.due("PIECE of the first SECTION", k, x.fill(0, 1));
            }
            check.due("7 PIECES", 7, x.ofSection(0, 2));
            check.due("the 8th PIECE", 7, last == 0 ? x.fill(0, 1) : last == 1 ? x.word(0, 1, 0, true)
                    : x.jump(0, 1, true));
            check.due("8 PIECES", 8, x.ofSection(0, 2));
            check.illegalState("a 9th FILL", () -> x.fill(0, 1));
            check.illegalState("a 9th WORD", () -> x.word(0, 1, 0, true));
            check.illegalState("a 9th JUMP", () -> x.jump(0, 1, true));
            check.due("8 PIECES behind refused ones", 8, x.ofSection(0, 2));
            check.due("the next SECTION has none", 0, x.ofSection(1, 2));
            check.due("another SECTION can have an 8th", 7, x.fill(23, 1));
            x.link(0, false);
            check.due("words of the 8 PIECES", last == 2 ? 9 : 8, x.ofSection(0, 5));
        }
    }

    /**
     * 1. Objects: "A SECTION is a row of at most 8 PIECES: FILL (1 to 40 words), WORD (1 word; a NAME, and a number
     * ADDED to it, -50 to 50), or JUMP (to a NAME; SHORT: 2 words, LONG: 5 words)."
     */
    private void fillOf1To40Words() {
        for (int words : new int[] {1, 2, 39, 40}) {
            LinkHarbour x = Harbours.withSections(1);
            check.due("fill() of " + words, 0, x.fill(0, words));
            x.link(0, false);
            check.due("words of a FILL of " + words, words, x.ofSection(0, 5));
            check.due("SIZE with a FILL of " + words, 1 + words, x.many(9));
        }
        LinkHarbour y = Harbours.withSections(1);
        for (int words : Harbours.outside(1, 40)) {
            check.illegalArgument("fill() of " + words, () -> y.fill(0, words));
        }
        check.due("no PIECE behind refused ones", 0, y.ofSection(0, 2));
        for (int k = 0; k < 8; k++) {
            y.fill(0, 40);
        }
        y.link(0, false);
        check.due("8 FILLS of 40", 320, y.ofSection(0, 5));
    }

    /**
     * 1. Objects: "A SECTION is a row of at most 8 PIECES: FILL (1 to 40 words), WORD (1 word; a NAME, and a number
     * ADDED to it, -50 to 50), or JUMP (to a NAME; SHORT: 2 words, LONG: 5 words)."
     */
    private void wordOf1Word() {
        LinkHarbour x = Harbours.withSections(1);
        for (int k = 0; k < 8; k++) {
            x.word(0, 0, k, false);
            x.link(0, false);
            check.due("words of " + (k + 1) + " WORDS", k + 1, x.ofSection(0, 5));
            check.due("the last one of these", 1 + k, x.wordAt(1 + k));
        }
    }

    /**
     * 1. Objects: "A SECTION is a row of at most 8 PIECES: FILL (1 to 40 words), WORD (1 word; a NAME, and a number
     * ADDED to it, -50 to 50), or JUMP (to a NAME; SHORT: 2 words, LONG: 5 words)."
     */
    private void addedOfMinus50To50() {
        LinkHarbour x = Harbours.withSections(1);
        int[] fine = {-50, -49, -1, 0, 1, 49, 50};
        for (int k = 0; k < fine.length; k++) {
            check.due("word() with " + fine[k], k, x.word(0, 0, fine[k], false));
        }
        for (int added : Harbours.outside(-50, 50)) {
            check.illegalArgument("word() with " + added, () -> x.word(0, 0, added, false));
        }
        check.due("PIECES behind refused ones", 7, x.ofSection(0, 2));
        x.link(0, false);
        for (int k = 0; k < fine.length; k++) {
            check.due("the word with " + fine[k], 1 + fine[k], x.wordAt(1 + k));
        }
    }

    /**
     * 1. Objects: "A SECTION is a row of at most 8 PIECES: FILL (1 to 40 words), WORD (1 word; a NAME, and a number
     * ADDED to it, -50 to 50), or JUMP (to a NAME; SHORT: 2 words, LONG: 5 words)."
     */
    private void jumpOf2Or5Words() {
        LinkHarbour x = Harbours.withSections(1);
        for (int k = 0; k < 8; k++) {
            x.jump(0, 0, false);
            x.bounds(500, 9999);
            x.link(0, false);
            check.due("words of SHORT ones", 2 * (k + 1), x.ofSection(0, 5));
            check.due("none is LONG", 0, x.ofSection(0, 6));
            x.bounds(1, 9999);
            x.link(0, false);
            check.due("words of LONG ones", 5 * (k + 1), x.ofSection(0, 5));
            check.due("all are LONG", k + 1, x.ofSection(0, 6));
        }
    }

    /** 1. Objects: "A WORD and a JUMP are REFERENCES, WEAK ones or not." */
    private void references() {
        LinkHarbour x = Harbours.withSections(1);
        x.fill(0, 19);
        x.link(0, false);
        for (int name = 0; name < 20; name++) {
            check.due("a FILL is none, also of 19 words", 0, x.ofName(name, 4));
        }
        x.word(0, 19, 0, true);
        check.due("a WEAK WORD is no FAULT", 0, x.link(0, false));
        check.due("it is a REFERENCE", 1, x.ofName(19, 4));
        x.jump(0, 19, true);
        check.due("a WEAK JUMP is no FAULT", 0, x.link(0, false));
        check.due("it is a REFERENCE too", 2, x.ofName(19, 4));
        x.word(0, 19, 0, false);
        check.due("a WORD is one", 1, x.link(0, false));
        check.due("and a REFERENCE", 3, x.ofName(19, 4));
        x.jump(0, 19, false);
        check.due("a JUMP is one", 2, x.link(0, false));
        check.due("and a REFERENCE too", 4, x.ofName(19, 4));
        LinkHarbour y = Harbours.withSections(24);
        for (int k = 0; k < 24 * 8; k++) {
            y.word(k / 8, 0, 0, false);
        }
        y.link(0, false);
        check.due("as many REFERENCES as there can be", 192, y.ofName(0, 4));
    }

    /**
     * 1. Objects: "An OBJECT defines a NAME once at most: STRONG or WEAK, at a PLACE, that is the end of a SECTION as
     * it is then (ahead of the PIECES that come to it later); or as COMMON, with a size (1 to 40) and an ALIGN."
     */
    private void definesOnceAtMost() {
        for (int first = 0; first < 3; first++) {
            LinkHarbour x = Harbours.withObjects(2);
            x.section(0, 1, true);
            x.section(0, 1, true);
            x.section(1, 1, true);
            for (int name = 0; name < 20; name++) {
                int again = name;
                if (first == 2) {
                    check.due("common() for the first time", name + 1, x.common(0, name, 1, 1));
                } else {
                    check.due("define() for the first time", 0, x.define(0, name, first == 1, false));
                }
                check.illegalState("STRONG for the second time", () -> x.define(0, again, false, false));
                check.illegalState("WEAK, in another SECTION", () -> x.define(1, again, true, true));
                check.illegalState("COMMON for the second time", () -> x.common(0, again, 1, 1));
                check.due("NAMES of the OBJECT", name + 1, x.ofObject(0, 1));
                check.due("another OBJECT can define that", 0, x.define(2, name, true, false));
            }
            check.due("NAMES of the other OBJECT", 20, x.ofObject(1, 1));
        }
    }

    /**
     * 1. Objects: "An OBJECT defines a NAME once at most: STRONG or WEAK, at a PLACE, that is the end of a SECTION as
     * it is then (ahead of the PIECES that come to it later)"
     */
    private void placeIsTheEndAsItIsThen() {
        LinkHarbour x = Harbours.withSections(1);
        for (int k = 0; k < 8; k++) {
            check.due("PLACE behind " + k + " PIECES", k, x.define(0, 1 + k, false, false));
            check.due("again, as it is still the end", k, x.define(0, 11 + k, true, false));
            x.fill(0, k + 1);
        }
        check.due("PLACE behind 8 PIECES", 8, x.define(0, 9, false, false));
        x.link(0, false);
        int address = 1;
        for (int k = 0; k < 8; k++) {
            check.due("its address", address, x.ofName(1 + k, 2));
            check.due("the address of the other one", address, x.ofName(11 + k, 2));
            address += k + 1;
        }
        check.due("the address behind all", 37, x.ofName(9, 2));
        check.due("which is SIZE", 37, x.many(9));
        check.outOfBounds("so that there is no word", () -> x.wordAt(37));
    }

    /**
     * 1. Objects: "An OBJECT defines a NAME once at most: STRONG or WEAK, at a PLACE, that is the end of a SECTION as
     * it is then (ahead of the PIECES that come to it later)"
     */
    private void placeBehindAll() {
        LinkHarbour x = Harbours.withSections(2);
        x.jump(0, 19, true);
        x.define(0, 1, false, false);
        x.word(0, 1, 0, false);
        x.define(1, 2, false, false);
        x.bounds(3, 9999);
        x.link(0, false);
        check.due("behind a SHORT JUMP", 3, x.ofName(1, 2));
        check.due("at the end of one is at the beginning of the next", 4, x.ofName(2, 2));
        x.bounds(2, 9999);
        x.link(0, false);
        check.due("behind a LONG JUMP", 6, x.ofName(1, 2));
        check.due("a WORD that stands for its own address", 6, x.wordAt(6));
        check.due("the next SECTION moves with it", 7, x.ofName(2, 2));
    }

    /** 1. Objects: "or as COMMON, with a size (1 to 40) and an ALIGN." */
    private void commonOf1To40() {
        for (int size : new int[] {1, 2, 39, 40}) {
            LinkHarbour x = Harbours.withObjects(1);
            check.due("common() of " + size, 1, x.common(0, 0, size, 1));
            x.item(1, 0);
            x.link(0, false);
            check.due("SIZE with a COMMON of " + size, 1 + size, x.many(9));
        }
        LinkHarbour y = Harbours.withObjects(1);
        for (int size : Harbours.outside(1, 40)) {
            check.illegalArgument("common() of " + size, () -> y.common(0, 0, size, 1));
        }
        check.due("NAMES behind refused ones", 0, y.ofObject(0, 1));
        check.due("which is free still", 1, y.common(0, 0, 40, 16));
    }

    /** 1. Objects: "A definition that is not COMMON can be HIDDEN." */
    private void hidden() {
        for (int name : new int[] {0, 1, 18, 19}) {
            for (int kind = 0; kind < 4; kind++) {
                LinkHarbour x = Harbours.withObjectsAndSections(1);
                x.define(0, name, kind % 2 == 1, kind >= 2);
                x.item(1, 0);
                x.link(name, true);
                x.publish(0);
                check.due("EXPORTED, if not HIDDEN", kind >= 2 ? -1 : 1, x.ofBinding(0, name, 0));
                check.due("how many", kind >= 2 ? 0 : 1, x.ofLibrary(0, 1));
            }
            LinkHarbour y = Harbours.withObjects(1);
            y.common(0, name, 1, 1);
            y.item(1, 0);
            y.link(name, true);
            y.publish(0);
            check.due("COMMON is never HIDDEN", 1, y.ofBinding(0, name, 0));
        }
    }

    /** 1. Objects: "ITEMS: at most 8, in a row, each a set of OBJECTS that are in no other one" */
    private void atMost8Items() {
        LinkHarbour x = Harbours.withObjects(10);
        for (int k = 0; k < 8; k++) {
            check.due("item() by place", k, x.item(1 << (9 - k), k % 3));
            check.due("ITEMS", k + 1, x.many(2));
        }
        check.illegalState("the 9th", () -> x.item(1, 0));
        check.illegalState("the 9th, of another OBJECT", () -> x.item(2, 2));
        check.illegalState("the 9th, of two", () -> x.item(3, 1));
        check.due("ITEMS behind refused ones", 8, x.many(2));
        check.due("a refused one holds nothing", -1, x.ofObject(0, 2));
        x.clear();
        check.due("there is room again", 0, x.item(1, 0));
    }

    /** 1. Objects: "ITEMS: at most 8, in a row, each a set of OBJECTS that are in no other one" */
    private void inNoOtherItem() {
        LinkHarbour x = Harbours.withObjects(10);
        x.item(1 + 512, 0);
        for (int set = 1; set < 1024; set++) {
            int objects = set;
            if ((set & 513) != 0 && set % 37 == 1) {
                check.illegalState("item(" + set + ") with one in another ITEM", () -> x.item(objects, 1));
            }
        }
        check.illegalState("the same set", () -> x.item(513, 0));
        check.illegalState("the first one alone", () -> x.item(1, 0));
        check.illegalState("the last one alone", () -> x.item(512, 0));
        check.illegalState("all", () -> x.item(1023, 0));
        check.due("all that are in no other one", 1, x.item(1023 - 513, 1));
        check.due("ITEMS", 2, x.many(2));
    }

    /** OBJECT 0 is KEPT and wants NAMES 1 and 2 of OBJECTS 1 and 2; 2 wants NAME 3 of OBJECT 3; 3 wants NAME 1. */
    private static LinkHarbour wanting() {
        LinkHarbour x = Harbours.withObjects(4);
        for (int k = 0; k < 4; k++) {
            x.section(k, 1, true);
            x.define(k, k, false, false);
        }
        x.word(0, 2, 0, false);
        x.word(2, 3, 0, false);
        x.word(3, 1, 0, false);
        return x;
    }

    private void takenDue(LinkHarbour x, String what, int... places) {
        x.link(0, false);
        for (int object = 0; object < places.length; object++) {
            check.due(what + ": OBJECT " + object, places[object], x.ofObject(object, 3));
        }
    }

    /**
     * 1. Objects: "PLAIN (0), an ARCHIVE (1), or an ARCHIVE that is in a GROUP with the ITEM ahead of it (2; as the
     * first one, or behind a PLAIN one, it is like 1)."; Promise 9: "`kind`: 0 PLAIN, 1 an ARCHIVE, 2 one in a GROUP
     * with the ITEM ahead"
     */
    private void kindsOfItems() {
        LinkHarbour plain = wanting();
        plain.item(15, 0);
        takenDue(plain, "PLAIN", 0, 1, 2, 3);
        LinkHarbour archive = wanting();
        archive.item(15, 1);
        takenDue(archive, "an ARCHIVE", 0, 3, 1, 2);
        LinkHarbour group = wanting();
        group.item(2 + 8, 1);
        group.item(1 + 4, 2);
        takenDue(group, "a GROUP", 0, 3, 1, 2);
        LinkHarbour apart = wanting();
        apart.item(2 + 8, 1);
        apart.item(1 + 4, 1);
        takenDue(apart, "two ARCHIVES", 0, -1, 1, -1);
        for (int kind : Harbours.outside(0, 2)) {
            check.illegalArgument("kind " + kind, () -> wanting().item(1, kind));
        }
    }

    /**
     * 1. Objects: "or an ARCHIVE that is in a GROUP with the ITEM ahead of it (2; as the first one, or behind a PLAIN
     * one, it is like 1)."
     */
    private void secondKindAsTheFirstOne() {
        LinkHarbour x = wanting();
        x.item(15, 2);
        takenDue(x, "alone", 0, 3, 1, 2);
        LinkHarbour y = wanting();
        y.item(2 + 8, 2);
        y.item(1 + 4, 1);
        takenDue(y, "ahead of an ARCHIVE", 0, -1, 1, -1);
        LinkHarbour z = wanting();
        z.item(2 + 8, 2);
        z.item(1 + 4, 2);
        takenDue(z, "ahead of one that is in a GROUP with it", 0, 3, 1, 2);
    }

    /**
     * 1. Objects: "or an ARCHIVE that is in a GROUP with the ITEM ahead of it (2; as the first one, or behind a PLAIN
     * one, it is like 1)."
     */
    private void secondKindBehindAPlainOne() {
        LinkHarbour x = wanting();
        x.item(1, 0);
        x.item(2 + 8, 2);
        x.item(4, 1);
        takenDue(x, "behind a PLAIN one, ahead of an ARCHIVE", 0, -1, 1, -1);
        LinkHarbour y = wanting();
        y.item(1, 0);
        y.item(2 + 8, 2);
        y.item(4, 2);
        takenDue(y, "behind a PLAIN one, ahead of a second one of it", 0, 3, 1, 2);
        LinkHarbour z = wanting();
        z.item(2 + 8, 1);
        z.item(1, 0);
        z.item(4, 2);
        takenDue(z, "a PLAIN one parts it from an ARCHIVE", 0, -1, 1, -1);
    }

    /** 1. Objects: "or an ARCHIVE that is in a GROUP with the ITEM ahead of it" */
    private void groupsOfTwoAndMore() {
        LinkHarbour x = wanting();
        x.item(2, 1);
        x.item(8, 2);
        x.item(4, 2);
        x.item(1, 2);
        takenDue(x, "a GROUP of four", 0, 3, 1, 2);
        LinkHarbour y = wanting();
        y.item(2, 1);
        y.item(8, 2);
        y.item(4, 1);
        y.item(1, 2);
        takenDue(y, "two GROUPS of two", 0, -1, 1, -1);
    }

    /** 1. Objects: "An OBJECT that is in no ITEM is not linked." */
    private void inNoItemNotLinked() {
        LinkHarbour x = wanting();
        takenDue(x, "without ITEMS", -1, -1, -1, -1);
        check.due("nothing is REACHED, KEPT or not", 0, x.many(8));
        check.due("nothing is defined", -1, x.ofName(0, 0));
        for (int away = 0; away < 4; away++) {
            LinkHarbour y = wanting();
            y.item(15 - (1 << away), 0);
            y.link(0, false);
            check.due("OBJECT " + away + " in no ITEM", -1, y.ofObject(away, 3));
            check.due("it is not REACHED", 0, y.ofSection(away, 3));
            check.due("nor is its NAME defined", -1, y.ofName(away, 0));
            check.due("all others are TAKEN", 3, y.many(7));
        }
    }

    /** Promise 1: "Creates a harbour without OBJECTS; REACH is 40, LIMIT 9999." */
    private void promise1() {
        LinkHarbour x = new LinkHarbour();
        check.due("no OBJECTS", 0, x.many(0));
        check.outOfBounds("not even one", () -> x.ofObject(0, 0));
        check.due("REACH", 40, x.bounds(40, 9999));
        for (int words = 39; words <= 41; words++) {
            LinkHarbour y = Harbours.withSections(2);
            y.jump(0, 1, false);
            Harbours.fillUp(y, 0, words);
            y.define(1, 1, false, false);
            y.link(0, false);
            check.due("REACH is 40: over " + words, words <= 40 ? 0 : 1, y.many(11));
        }
        LinkHarbour far = Harbours.withSections(24);
        for (int section = 0; section < 24; section++) {
            Harbours.fillUp(far, section, 279);
        }
        far.define(23, 1, false, false);
        far.word(23, 1, 50, false);
        check.due("LIMIT is not below the farthest words", 0, far.link(0, false));
        far.bounds(40, 6746);
        check.due("as it was a lower one", 1, far.link(0, false));
        far.bounds(40, 6747);
        check.due("that is just not below", 0, far.link(0, false));
    }

    /** Promise 2: "Adds an OBJECT."; Promise 2: "Returns its number." */
    private void promise2() {
        LinkHarbour x = new LinkHarbour();
        check.due("the first one", 0, x.object());
        for (int k = 1; k < 9; k++) {
            x.object();
        }
        check.due("the last one", 9, x.object());
        for (int object = 0; object < 10; object++) {
            for (int what = 0; what <= 3; what++) {
                check.due("a new OBJECT has nothing: " + what, what < 2 ? 0 : -1, x.ofObject(object, what));
            }
        }
    }

    /** Promise 3: "Adds a SECTION, without PIECES."; Promise 3: "Returns its number." */
    private void promise3() {
        LinkHarbour x = Harbours.withObjects(10);
        check.due("the first one", 0, x.section(9, 1, false));
        for (int k = 1; k < 23; k++) {
            x.section(0, 2, true);
        }
        check.due("the last one", 23, x.section(9, 16, true));
        for (int section = 0; section < 24; section++) {
            check.due("without PIECES", 0, x.ofSection(section, 2));
        }
    }

    /**
     * Promise 4: "Adds a FILL to a SECTION."; Promise 4: "Returns the place of the PIECE in it, from 0.";
     * Promise 5: "Adds a WORD to a SECTION."; Promise 5: "Returns the place of the PIECE.";
     * Promise 6: "Adds a JUMP to a SECTION."; Promise 6: "Returns the place of the PIECE."
     */
    private void promises4To6() {
        LinkHarbour x = Harbours.withSections(3);
        for (int place = 0; place < 8; place++) {
            check.due("fill()", place, x.fill(0, 40));
            check.due("word()", place, x.word(1, 0, 0, false));
            check.due("jump()", place, x.jump(2, 0, false));
        }
        x.bounds(500, 9999);
        x.link(0, false);
        check.due("8 FILLS", 320, x.ofSection(0, 5));
        check.due("8 WORDS", 8, x.ofSection(1, 5));
        check.due("8 JUMPS", 16, x.ofSection(2, 5));
        check.due("the last word of FILL", 0, x.wordAt(320));
        check.due("the first WORD", 1, x.wordAt(321));
        check.due("the last WORD", 1, x.wordAt(328));
        check.due("the first JUMP", -1, x.wordAt(329));
        check.due("the last JUMP", 1 - 343 - 2, x.wordAt(344));
    }

    /**
     * Promise 7: "Defines a NAME, STRONG or WEAK, at the end of a SECTION as it is.";
     * Promise 7: "Returns how many PIECES are ahead of it."
     */
    private void promise7() {
        LinkHarbour x = Harbours.withSections(24);
        check.due("none", 0, x.define(23, 19, true, false));
        for (int k = 0; k < 8; k++) {
            x.fill(23, 40);
            check.due("so many", k + 1, x.define(23, 1 + k, k % 2 == 0, k % 3 == 0));
        }
        check.due("those of its own SECTION alone", 0, x.define(22, 10, false, false));
        x.link(0, false);
        check.due("STRONG", 0, x.ofName(10, 0));
        check.due("WEAK", 2, x.ofName(19, 0));
        check.due("at the beginning", 1, x.ofName(19, 2));
        check.due("at the end", 321, x.ofName(8, 2));
    }

    /** Promise 8: "Defines a NAME as COMMON."; Promise 8: "Returns how many NAMES that OBJECT defines then." */
    private void promise8() {
        LinkHarbour x = Harbours.withObjects(10);
        for (int name = 0; name < 20; name++) {
            check.due("NAMES of the first OBJECT", name + 1, x.common(0, name, 40, 16));
            check.due("NAMES of the last OBJECT", name + 1, x.common(9, 19 - name, 1, 1));
        }
        x.section(1, 1, true);
        for (int name = 0; name < 19; name++) {
            x.define(0, name, false, true);
        }
        check.due("those that are not COMMON count too", 20, x.common(1, 19, 40, 16));
        x.item(512, 0);
        x.link(0, true);
        check.due("COMMON", 1, x.ofName(0, 0));
        check.due("20 of 1 word", 21, x.many(9));
    }

    /** Promise 9: "Adds an ITEM at the end of the row."; Promise 9: "Returns its place." */
    private void promise9() {
        LinkHarbour x = Harbours.withObjects(10);
        check.due("the first one", 0, x.item(4, 2));
        for (int k = 1; k < 7; k++) {
            check.due("the next one", k, x.item(4 << k, 0));
        }
        check.due("the last one", 7, x.item(3, 0));
        check.due("its OBJECTS", 7, x.ofObject(0, 2));
        check.due("its OBJECTS too", 7, x.ofObject(1, 2));
        x.link(0, false);
        check.due("at the end of the row", 6, x.ofObject(0, 3));
        check.due("by numbers", 7, x.ofObject(1, 3));
    }

    /** Promise 10: "Takes all ITEMS away."; Promise 10: "Returns how many there were." */
    private void promise10() {
        LinkHarbour x = Harbours.withObjects(10);
        check.due("of none", 0, x.clear());
        x.item(1023, 0);
        check.due("of one", 1, x.clear());
        for (int k = 0; k < 8; k++) {
            x.item(1 << k, 0);
        }
        check.due("of as many as there can be", 8, x.clear());
        check.due("again", 0, x.clear());
        check.due("there are none", 0, x.many(2));
        for (int object = 0; object < 10; object++) {
            check.due("in no ITEM", -1, x.ofObject(object, 2));
        }
        x.link(0, false);
        check.due("nothing is TAKEN", 0, x.many(7));
        check.due("all are free again", 0, x.item(1023, 0));
    }

    /**
     * Promise 11: "0 how many SECTIONS, 1 how many NAMES it defines, 2 in which ITEM it is (NONE), 3 as which one it
     * was TAKEN by the latest link, from 0 (NONE, if it was not)"; Promise 11: "Returns that."
     */
    private void promise11Sections() {
        LinkHarbour x = Harbours.withObjects(10);
        for (int k = 0; k < 23; k++) {
            check.due("SECTIONS", k, x.ofObject(9, 0));
            x.section(9, 1, true);
        }
        x.section(0, 1, true);
        check.due("SECTIONS of the last OBJECT", 23, x.ofObject(9, 0));
        check.due("SECTIONS of the first OBJECT", 1, x.ofObject(0, 0));
        check.due("no SECTIONS", 0, x.ofObject(8, 0));
        check.due("as many as there can be", 24, Harbours.withSections(24).ofObject(0, 0));
    }

    /**
     * Promise 11: "0 how many SECTIONS, 1 how many NAMES it defines, 2 in which ITEM it is (NONE), 3 as which one it
     * was TAKEN by the latest link, from 0 (NONE, if it was not)"
     */
    private void promise11Names() {
        LinkHarbour x = Harbours.withObjectsAndSections(10);
        for (int name = 0; name < 20; name++) {
            check.due("NAMES", name, x.ofObject(9, 1));
            if (name % 2 == 0) {
                x.define(9, name, name % 4 == 0, true);
            } else {
                x.common(9, name, 1, 1);
            }
        }
        check.due("as many as there can be", 20, x.ofObject(9, 1));
        check.due("of another one", 0, x.ofObject(8, 1));
    }

    /**
     * Promise 11: "0 how many SECTIONS, 1 how many NAMES it defines, 2 in which ITEM it is (NONE), 3 as which one it
     * was TAKEN by the latest link, from 0 (NONE, if it was not)"
     */
    private void promise11Item() {
        LinkHarbour x = Harbours.withObjects(10);
        for (int k = 0; k < 8; k++) {
            check.due("not yet", -1, x.ofObject(9 - k, 2));
            x.item(1 << (9 - k), 1);
            check.due("in ITEM", k, x.ofObject(9 - k, 2));
        }
        check.due("in no ITEM: 0", -1, x.ofObject(0, 2));
        check.due("in no ITEM: 1", -1, x.ofObject(1, 2));
        x.link(0, false);
        x.clear();
        check.due("not any more", -1, x.ofObject(9, 2));
    }

    /**
     * Promise 11: "0 how many SECTIONS, 1 how many NAMES it defines, 2 in which ITEM it is (NONE), 3 as which one it
     * was TAKEN by the latest link, from 0 (NONE, if it was not)"
     */
    private void promise11Taken() {
        LinkHarbour x = Harbours.withObjects(10);
        x.item(1023 - 1, 0);
        check.due("ahead of all links", -1, x.ofObject(1, 3));
        x.link(0, false);
        check.due("in no ITEM", -1, x.ofObject(0, 3));
        for (int object = 1; object < 10; object++) {
            check.due("as which one", object - 1, x.ofObject(object, 3));
        }
        x.item(1, 0);
        check.due("not by the latest link", -1, x.ofObject(0, 3));
        x.link(0, false);
        check.due("as the last one of all", 9, x.ofObject(0, 3));
        x.clear();
        check.due("also if it is in no ITEM any more", 9, x.ofObject(0, 3));
        x.link(0, false);
        check.due("not by the latest link, though by one ahead of it", -1, x.ofObject(0, 3));
    }
}
