/** Promises 1 to 11: what objects are made of, and the row of items. */
public final class ObjectsTest {
    private static final int[] NO_ALIGNS = {Integer.MIN_VALUE, -16, -1, 0, 3, 5, 6, 7, 12, 15, 17, 32, Integer.MAX_VALUE};
    private static final int[] NO_NAMES = {Integer.MIN_VALUE, -1, 20, 21, Integer.MAX_VALUE};

    private final Check check = new Check("ObjectsTest");

    public static void main(String[] args) {
        ObjectsTest test = new ObjectsTest();
        test.promise1NewObject();
        test.promise2Object();
        test.promise3Section();
        test.promise4Fill();
        test.promise5Word();
        test.promise6Jump();
        test.promise7Define();
        test.promise8Common();
        test.promise9Item();
        test.promise9Groups();
        test.promise10Clear();
        test.promise11OfObject();
        test.check.end();
    }

    private static LinkHarbour withObjects(int count) {
        LinkHarbour x = new LinkHarbour();
        for (int k = 0; k < count; k++) {
            x.object();
        }
        return x;
    }

    private static LinkHarbour withFullSection() {
        LinkHarbour x = withObjects(1);
        x.section(0, 1, true);
        for (int k = 0; k < 8; k++) {
            x.fill(0, 1);
        }
        return x;
    }

    private void promise1NewObject() {
        LinkHarbour x = new LinkHarbour();
        for (int what = 0; what <= 12; what++) {
            check.due("1: many(" + what + ") of a new one", 0, x.many(what));
        }
        check.due("1: usedPart() of a new one", 0.0, x.usedPart());
        check.due("1: REACH of a new one", 40, x.bounds(1, 0));
        LinkHarbour y = withObjects(1);
        y.section(0, 1, true);
        y.define(0, 0, false, false);
        for (int k = 0; k < 8; k++) {
            y.fill(0, 40);
        }
        for (int s = 1; s < 24; s++) {
            y.section(0, 1, true);
            for (int k = 0; k < 7; k++) {
                y.fill(s, 40);
            }
        }
        y.define(23, 1, false, false);
        y.word(23, 1, 50, false);
        y.item(1, 0);
        check.due("1: LIMIT of a new one is above all addresses that there can be", 0, y.link(0, false));
        y.bounds(40, 6811);
        check.due("1: a LIMIT that is just not passed", 0, y.link(0, false));
        y.bounds(40, 6810);
        check.due("1: a LIMIT that is passed by 1", 1, y.link(0, false));
    }

    private void promise2Object() {
        LinkHarbour x = new LinkHarbour();
        for (int k = 0; k < 10; k++) {
            check.due("2: object()", k, x.object());
        }
        check.illegalState("2: an 11th object()", x::object);
        check.due("2: OBJECTS after a refused one", 10, x.many(0));
        check.due("2: an OBJECT has no SECTIONS", 0, x.ofObject(9, 0));
        check.due("2: an OBJECT defines nothing", 0, x.ofObject(9, 1));
    }

    private void promise3Section() {
        LinkHarbour x = withObjects(2);
        int[] aligns = {1, 2, 4, 8, 16};
        for (int k = 0; k < 5; k++) {
            check.due("3: section()", k, x.section(k % 2, aligns[k], false));
            check.due("3: its ALIGN", aligns[k], x.ofSection(k, 1));
            check.due("3: its OBJECT", k % 2, x.ofSection(k, 0));
            check.due("3: its PIECES", 0, x.ofSection(k, 2));
        }
        for (int align : NO_ALIGNS) {
            check.illegalArgument("3: section with ALIGN " + align, () -> x.section(0, align, false));
            check.outOfBounds("3: no OBJECT goes ahead of no ALIGN", () -> x.section(2, align, false));
        }
        check.outOfBounds("3: section(2, ..)", () -> x.section(2, 1, false));
        check.outOfBounds("3: section(-1, ..)", () -> x.section(-1, 1, false));
        check.outOfBounds("3: section(least, ..)", () -> x.section(Integer.MIN_VALUE, 1, false));
        for (int k = 5; k < 24; k++) {
            check.due("3: section()", k, x.section(0, 1, false));
        }
        check.illegalState("3: a 25th section()", () -> x.section(0, 1, false));
        check.illegalArgument("3: no ALIGN goes ahead of 24", () -> x.section(0, 3, false));
        check.due("3: SECTIONS after refused ones", 24, x.many(1));

        LinkHarbour y = withObjects(1);
        y.section(0, 1, true);
        y.section(0, 1, false);
        y.item(1, 0);
        y.link(0, false);
        check.due("3: a KEPT one is REACHED", 1, y.ofSection(0, 3));
        check.due("3: one that is not KEPT is not", 0, y.ofSection(1, 3));
    }

    private void promise4Fill() {
        LinkHarbour x = withObjects(1);
        x.section(0, 1, true);
        x.section(0, 1, true);
        check.due("4: fill(0, 1)", 0, x.fill(0, 1));
        check.due("4: fill(0, 40)", 1, x.fill(0, 40));
        check.due("4: fill of another SECTION", 0, x.fill(1, 3));
        check.due("4: PIECES", 2, x.ofSection(0, 2));
        for (int words : new int[] {0, -1, 41, Integer.MAX_VALUE, Integer.MIN_VALUE}) {
            check.illegalArgument("4: fill(0, " + words + ")", () -> x.fill(0, words));
            check.outOfBounds("4: fill(2, " + words + ")", () -> x.fill(2, words));
        }
        check.outOfBounds("4: fill(-1, 1)", () -> x.fill(-1, 1));
        check.due("4: PIECES after refused ones", 2, x.ofSection(0, 2));
        x.item(1, 0);
        x.link(0, false);
        check.due("4: the words of FILLS", 41, x.ofSection(0, 5));
        check.due("4: the words of the other FILL", 3, x.ofSection(1, 5));
        check.due("4: a word of FILL", 0, x.wordAt(20));
        LinkHarbour y = withFullSection();
        check.illegalState("4: a 9th PIECE", () -> y.fill(0, 1));
        check.illegalArgument("4: no words go ahead of 8 PIECES", () -> y.fill(0, 41));
        check.due("4: 8 PIECES", 8, y.ofSection(0, 2));
    }

    private void promise5Word() {
        LinkHarbour x = withObjects(1);
        x.section(0, 1, true);
        x.define(0, 19, false, false);
        check.due("5: word(0, 19, 50)", 0, x.word(0, 19, 50, false));
        check.due("5: word(0, 0, 0)", 1, x.word(0, 0, 0, true));
        check.due("5: word(0, 19, -50)", 2, x.word(0, 19, -50, true));
        for (int name : NO_NAMES) {
            check.illegalArgument("5: word(0, " + name + ")", () -> x.word(0, name, 0, false));
            check.outOfBounds("5: word(1, " + name + ")", () -> x.word(1, name, 0, false));
        }
        for (int added : new int[] {51, -51, Integer.MAX_VALUE, Integer.MIN_VALUE}) {
            check.illegalArgument("5: word(0, 0, " + added + ")", () -> x.word(0, 0, added, false));
        }
        check.outOfBounds("5: word(-1, ..)", () -> x.word(-1, 0, 0, false));
        check.due("5: PIECES after refused ones", 3, x.ofSection(0, 2));
        x.item(1, 0);
        x.link(19, false);
        check.due("5: 1 word each", 3, x.ofSection(0, 5));
        check.due("5: address and ADDED", 51, x.wordAt(1));
        check.due("5: ADDED alone", 0, x.wordAt(2));
        check.due("5: address and ADDED below 0", -49, x.wordAt(3));
        LinkHarbour y = withFullSection();
        check.illegalState("5: a 9th PIECE", () -> y.word(0, 0, 0, false));
        check.illegalArgument("5: no NAME goes ahead of 8 PIECES", () -> y.word(0, 20, 0, false));
        check.illegalArgument("5: no ADDED goes ahead of 8 PIECES", () -> y.word(0, 0, 51, false));
        y.item(1, 0);
        y.section(0, 1, true);
        y.define(1, 1, false, false);
        check.due("5: a refused WORD is no REFERENCE", 0, y.link(1, false));
        LinkHarbour z = withObjects(1);
        z.section(0, 1, true);
        z.define(0, 1, false, false);
        z.word(0, 5, 0, true);
        z.item(1, 0);
        check.due("5: a WEAK one without DEFINITION is no FAULT", 0, z.link(1, false));
        z.word(0, 5, 0, false);
        check.due("5: another one is", 1, z.link(1, false));
    }

    private void promise6Jump() {
        LinkHarbour x = withObjects(1);
        x.section(0, 1, true);
        x.define(0, 19, false, false);
        check.due("6: jump(0, 19)", 0, x.jump(0, 19, false));
        check.due("6: jump(0, 0)", 1, x.jump(0, 0, true));
        for (int name : NO_NAMES) {
            check.illegalArgument("6: jump(0, " + name + ")", () -> x.jump(0, name, false));
            check.outOfBounds("6: jump(1, " + name + ")", () -> x.jump(1, name, false));
        }
        check.outOfBounds("6: jump(-1, ..)", () -> x.jump(-1, 0, false));
        x.item(1, 0);
        check.due("6: a WEAK one without DEFINITION is no FAULT", 0, x.link(19, false));
        check.due("6: SHORT ones have 2 words", 4, x.ofSection(0, 5));
        check.due("6: jump(0, 0), not WEAK", 2, x.jump(0, 0, false));
        check.due("6: another one is a FAULT", 1, x.link(19, false));
        x.bounds(1, 9999);
        x.link(19, false);
        check.due("6: LONG ones have 5 words", 15, x.ofSection(0, 5));
        LinkHarbour y = withFullSection();
        check.illegalState("6: a 9th PIECE", () -> y.jump(0, 0, false));
        check.illegalArgument("6: no NAME goes ahead of 8 PIECES", () -> y.jump(0, 20, false));
        y.section(0, 1, true);
        y.define(1, 1, false, false);
        y.item(1, 0);
        check.due("6: a refused JUMP is no REFERENCE", 0, y.link(1, false));
    }

    private void promise7Define() {
        LinkHarbour x = withObjects(2);
        x.section(0, 1, true);
        x.section(1, 1, false);
        x.section(0, 1, false);
        check.due("7: ahead of all PIECES", 0, x.define(0, 0, false, false));
        x.fill(0, 7);
        check.due("7: behind one", 1, x.define(0, 19, false, true));
        x.fill(0, 2);
        check.due("7: behind two", 2, x.define(0, 2, true, true));
        check.due("7: NAMES of the OBJECT", 3, x.ofObject(0, 1));
        for (int name : NO_NAMES) {
            check.illegalArgument("7: define(0, " + name + ")", () -> x.define(0, name, false, false));
            check.outOfBounds("7: define(3, " + name + ")", () -> x.define(3, name, false, false));
        }
        check.outOfBounds("7: define(-1, ..)", () -> x.define(-1, 0, false, false));
        check.illegalState("7: STRONG again", () -> x.define(0, 0, false, false));
        check.illegalState("7: WEAK again", () -> x.define(0, 0, true, false));
        check.illegalState("7: in another SECTION of the OBJECT", () -> x.define(2, 19, false, false));
        x.common(0, 5, 1, 1);
        check.illegalState("7: what is COMMON already", () -> x.define(0, 5, false, false));
        check.due("7: another OBJECT may", 0, x.define(1, 0, true, false));
        check.due("7: NAMES after refused ones", 4, x.ofObject(0, 1));
        x.item(3, 0);
        check.due("7: STRONG and WEAK of one NAME are no FAULT", 0, x.link(0, true));
        check.due("7: the PLACE is ahead of later PIECES", 8, x.ofName(19, 2));
        check.due("7: the PLACE behind the last PIECE", 10, x.ofName(2, 2));
        check.due("7: STRONG", 0, x.ofName(0, 0));
        check.due("7: WEAK", 2, x.ofName(2, 0));
        x.publish(0);
        check.due("7: what is not HIDDEN is EXPORTED", 1, x.ofBinding(0, 0, 0));
        check.due("7: a HIDDEN STRONG one is not", -1, x.ofBinding(0, 19, 0));
        check.due("7: a HIDDEN WEAK one is not", -1, x.ofBinding(0, 2, 0));
    }

    private void promise8Common() {
        LinkHarbour x = withObjects(2);
        check.due("8: common(0, 0, 1, 1)", 1, x.common(0, 0, 1, 1));
        check.due("8: common(0, 19, 40, 16)", 2, x.common(0, 19, 40, 16));
        check.due("8: common of another OBJECT", 1, x.common(1, 19, 3, 2));
        x.section(0, 1, false);
        x.define(0, 7, false, false);
        check.due("8: defined ones count too", 4, x.common(0, 8, 2, 4));
        for (int name : NO_NAMES) {
            check.illegalArgument("8: common(0, " + name + ")", () -> x.common(0, name, 1, 1));
            check.outOfBounds("8: common(2, " + name + ")", () -> x.common(2, name, 1, 1));
        }
        for (int size : new int[] {0, -1, 41, Integer.MAX_VALUE, Integer.MIN_VALUE}) {
            check.illegalArgument("8: size " + size, () -> x.common(0, 1, size, 1));
        }
        for (int align : NO_ALIGNS) {
            check.illegalArgument("8: ALIGN " + align, () -> x.common(0, 1, 1, align));
            check.illegalArgument("8: no ALIGN goes ahead of defined already", () -> x.common(0, 0, 1, align));
        }
        check.outOfBounds("8: common(-1, ..)", () -> x.common(-1, 0, 1, 1));
        check.illegalState("8: COMMON already", () -> x.common(0, 0, 2, 2));
        check.illegalState("8: STRONG already", () -> x.common(0, 7, 2, 2));
        check.due("8: NAMES after refused ones", 4, x.ofObject(0, 1));
        x.item(3, 0);
        x.link(0, true);
        check.due("8: COMMON", 1, x.ofName(19, 0));
        check.due("8: COMMON ones stand behind the SECTIONS", 1, x.ofName(0, 2));
        check.due("8: at the next address that the ALIGN divides", 4, x.ofName(8, 2));
        check.due("8: by NAMES", 16, x.ofName(19, 2));
        check.due("8: with the greatest size", 56, x.many(9));
    }

    private void promise9Item() {
        LinkHarbour x = withObjects(10);
        check.due("9: item(1, 0)", 0, x.item(1, 0));
        check.due("9: item(6, 1)", 1, x.item(6, 1));
        check.due("9: item(512, 2)", 2, x.item(512, 2));
        for (int objects : new int[] {0, -1, Integer.MIN_VALUE, 1024, 1032, Integer.MAX_VALUE}) {
            check.illegalArgument("9: item(" + objects + ", 0)", () -> x.item(objects, 0));
        }
        for (int kind : new int[] {-1, 3, Integer.MAX_VALUE, Integer.MIN_VALUE}) {
            check.illegalArgument("9: item(8, " + kind + ")", () -> x.item(8, kind));
            check.illegalArgument("9: no kind goes ahead of another ITEM", () -> x.item(1, kind));
        }
        check.illegalState("9: an OBJECT in another ITEM", () -> x.item(4, 0));
        check.illegalState("9: one of them in another ITEM", () -> x.item(8 + 4, 0));
        check.due("9: ITEMS after refused ones", 3, x.many(2));
        check.due("9: a refused one holds nothing", -1, x.ofObject(3, 2));
        for (int k = 3; k < 8; k++) {
            check.due("9: item()", k, x.item(1 << k, 0));
        }
        check.illegalState("9: a 9th item()", () -> x.item(1 << 8, 0));
        check.illegalArgument("9: no such OBJECT goes ahead of 8 ITEMS", () -> x.item(1 << 10, 0));
        check.illegalArgument("9: no OBJECT that there is not yet", () -> withObjects(2).item(4, 0));
        check.illegalArgument("9: nor one beside one that there is", () -> withObjects(2).item(5, 0));
    }

    /** OBJECT 0 needs 1, which is defined by 2; that needs 2, which is defined by 1. */
    private static LinkHarbour crossed() {
        LinkHarbour x = withObjects(3);
        x.section(0, 1, true);
        x.define(0, 0, false, false);
        x.word(0, 1, 0, false);
        x.section(1, 1, false);
        x.define(1, 2, false, false);
        x.section(2, 1, false);
        x.define(2, 1, false, false);
        x.word(2, 2, 0, false);
        return x;
    }

    private void promise9Groups() {
        LinkHarbour x = crossed();
        x.item(1, 0);
        x.item(2, 1);
        x.item(4, 1);
        check.due("9: two ARCHIVES are gone through one behind the other", 1, x.link(0, false));
        check.due("9: so that 1 is not TAKEN", -1, x.ofObject(1, 3));
        check.due("9: but 2", 1, x.ofObject(2, 3));
        LinkHarbour y = crossed();
        y.item(1, 0);
        y.item(2, 1);
        y.item(4, 2);
        check.due("9: a GROUP is gone through again", 0, y.link(0, false));
        check.due("9: so that 1 is TAKEN", 2, y.ofObject(1, 3));
        LinkHarbour z = crossed();
        z.item(1, 0);
        z.item(2, 2);
        z.item(4, 2);
        check.due("9: behind a PLAIN one 2 is like 1", 0, z.link(0, false));
        LinkHarbour u = crossed();
        u.item(2, 2);
        u.item(1, 0);
        u.item(4, 2);
        check.due("9: a PLAIN one parts two of kind 2", 1, u.link(0, false));
        check.due("9: as the first one 2 is like 1", -1, u.ofObject(1, 3));
        LinkHarbour w = crossed();
        w.item(2, 1);
        w.item(5, 2);
        check.due("9: a GROUP can begin with the first ITEM", 0, w.link(0, false));
        check.due("9: and goes through that again", 2, w.ofObject(1, 3));
        LinkHarbour v = crossed();
        v.item(1, 0);
        v.item(6, 1);
        check.due("9: an ARCHIVE alone is gone through again", 0, v.link(0, false));
    }

    private void promise10Clear() {
        LinkHarbour x = withObjects(3);
        check.due("10: clear() of none", 0, x.clear());
        x.item(1, 0);
        x.item(6, 1);
        check.due("10: clear() of two", 2, x.clear());
        check.due("10: ITEMS behind that", 0, x.many(2));
        check.due("10: an OBJECT behind that", -1, x.ofObject(1, 2));
        check.due("10: an OBJECT is free for another ITEM", 0, x.item(3, 0));
        x.link(0, false);
        check.due("10: the ITEMS of before are not linked", 2, x.many(7));
        check.due("10: clear() changes no link", 1, x.clear());
        check.due("10: so that this stays", 1, x.ofObject(1, 3));
        check.due("10: clear() again", 0, x.clear());
    }

    private void promise11OfObject() {
        LinkHarbour x = withObjects(4);
        x.section(1, 1, false);
        x.section(0, 1, true);
        x.section(1, 1, false);
        x.define(0, 3, true, false);
        x.define(2, 4, false, false);
        x.common(1, 5, 1, 1);
        check.due("11: SECTIONS", 2, x.ofObject(1, 0));
        check.due("11: SECTIONS of another one", 1, x.ofObject(0, 0));
        check.due("11: no SECTIONS", 0, x.ofObject(3, 0));
        check.due("11: NAMES", 3, x.ofObject(1, 1));
        check.due("11: no NAMES", 0, x.ofObject(2, 1));
        check.due("11: no ITEM", -1, x.ofObject(0, 2));
        check.due("11: not TAKEN ahead of all links", -1, x.ofObject(0, 3));
        x.item(8, 1);
        x.item(6, 0);
        x.item(1, 0);
        check.due("11: ITEM", 1, x.ofObject(2, 2));
        check.due("11: ITEM of the first one", 0, x.ofObject(3, 2));
        x.link(3, false);
        check.due("11: TAKEN as the first one", 0, x.ofObject(1, 3));
        check.due("11: TAKEN as the second one", 1, x.ofObject(2, 3));
        check.due("11: TAKEN as the third one", 2, x.ofObject(0, 3));
        check.due("11: not TAKEN of an ARCHIVE", -1, x.ofObject(3, 3));
        x.object();
        check.due("11: not TAKEN, as it came later", -1, x.ofObject(4, 3));
        for (int object : new int[] {-1, 5, 10, Integer.MAX_VALUE, Integer.MIN_VALUE}) {
            check.outOfBounds("11: ofObject(" + object + ", 0)", () -> x.ofObject(object, 0));
            check.outOfBounds("11: ofObject(" + object + ", 4)", () -> x.ofObject(object, 4));
        }
        for (int what : new int[] {-1, 4, Integer.MAX_VALUE, Integer.MIN_VALUE}) {
            check.illegalArgument("11: ofObject(0, " + what + ")", () -> x.ofObject(0, what));
        }
    }
}
