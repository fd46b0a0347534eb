/**
 * The edges that the document names in "3. Libraries" and promises 18 to 25: each test stands at the edge itself and
 * just beyond it, and says which sentence it holds. Refused calls are looked at in RefusalsTest too.
 */
public final class BoundaryLibrariesTest {
    private final Check check = new Check("BoundaryLibrariesTest");

    public static void main(String[] args) {
        BoundaryLibrariesTest test = new BoundaryLibrariesTest();
        test.images();
        test.loading();
        test.closing();
        test.binding();
        test.promises();
        test.check.end();
    }

    private void images() {
        atMost6Libraries();
        sharedWithoutFaults();
        exportsWithTheirAddresses();
        importsOfALibrary();
        exportsAreNoImports();
        needsOf0To5();
        notThereYet();
    }

    private void loading() {
        baseFrom64On();
        baseOfMultiples();
        baseOfAnyThatIsLoaded();
        baseOfTheGreatest();
        rowOfOne();
        rowOfAll();
        rowByBreadth();
        rowEachOnce();
        countIs0AtFirst();
        loadedOneBehindTheOther();
        globalAtTheEnd();
        globalIfLoadedAheadOfThis();
        initialisedByDepth();
        initialisedThroughLoadedOnes();
    }

    private void closing() {
        countIs1Less();
        rowsOfThoseThatHaveACount();
        notLoadedAndNotGlobal();
        boundNoMore();
        rowsAsTheyAreNow();
    }

    private void binding() {
        firstOfTheGlobalOnes();
        thenOfItsOwnRow();
        passingOverWhatIsNotLoaded();
        staysBound();
        withoutOneItIsNotBound();
    }

    private void promises() {
        promise18();
        promise19();
        promise20();
        promise21();
        promise22();
        promise22AsItIsLoaded();
        promise23();
        promise23NotLoaded();
        promise24AheadOfAllLinks();
        promise24();
        promise24Bindings();
        promise25AheadOfAllLinks();
        promise25();
    }

    /** LIBRARIES of such SIZES, each of one OBJECT, that NEED nothing. */
    private static LinkHarbour ofSizes(int... sizes) {
        LinkHarbour x = Harbours.withObjectsAndSections(sizes.length);
        for (int k = 0; k < sizes.length; k++) {
            x.define(k, 0, false, false);
            Harbours.fillUp(x, k, sizes[k] - 1);
            x.clear();
            x.item(1 << k, 0);
            x.link(0, true);
            x.publish(0);
        }
        return x;
    }

    private void ofAllDue(LinkHarbour x, String when, int what, int... due) {
        for (int library = 0; library < due.length; library++) {
            check.due(when + ": LIBRARY " + library, due[library], x.ofLibrary(library, what));
        }
    }

    /** 3. Libraries: "LIBRARIES: at most 6, numbered from 0 as they are published" */
    private void atMost6Libraries() {
        LinkHarbour x = Harbours.withSections(1);
        x.link(0, true);
        check.outOfBounds("LIBRARY 0 of none", () -> x.ofLibrary(0, 0));
        for (int k = 0; k < 6; k++) {
            int next = k + 1;
            check.due("publish() by number", k, x.publish(0));
            check.due("LIBRARIES", next, x.many(3));
            check.due("it is there", 1, x.ofLibrary(k, 0));
            check.outOfBounds("the next one is not", () -> x.ofLibrary(next, 0));
        }
        check.illegalState("the 7th", () -> x.publish(0));
        check.due("LIBRARIES behind a refused one", 6, x.many(3));
        check.due("the last one can be opened", 1, x.open(5, true));
        check.outOfBounds("the 7th can't", () -> x.open(6, true));
    }

    /** 3. Libraries: "an image of a SHARED link without FAULTS" */
    private void sharedWithoutFaults() {
        LinkHarbour x = Harbours.withSections(1);
        check.illegalState("no link", () -> x.publish(0));
        x.link(0, false);
        check.illegalState("without FAULTS, not SHARED", () -> x.publish(0));
        x.link(1, true);
        check.illegalState("SHARED, with 1 FAULT", () -> x.publish(0));
        x.link(1, false);
        check.illegalState("neither", () -> x.publish(0));
        x.link(0, true);
        check.due("both", 0, x.publish(0));
        x.word(0, 0, -2, false);
        check.due("again, though there is what would be a FAULT", 1, x.publish(0));
        x.link(0, true);
        check.illegalState("SHARED, with FAULT 4", () -> x.publish(0));
        check.due("LIBRARIES", 2, x.many(3));
    }

    /**
     * 3. Libraries: "its EXPORTS are the NAMES with a DEFINITION that is not HIDDEN, REACHED, each with its address"
     */
    private void exportsWithTheirAddresses() {
        LinkHarbour x = Harbours.withObjectsAndSections(1);
        for (int name = 0; name < 20; name++) {
            if (name % 5 == 4) {
                x.common(0, name, 2, 1);
            } else {
                x.define(0, name, name % 2 == 0, name % 3 == 0);
            }
            if (name < 7) {
                x.fill(0, 1);
            }
        }
        x.item(1, 0);
        x.link(0, true);
        x.publish(0);
        int exports = 0;
        for (int name = 0; name < 20; name++) {
            int due;
            if (name % 5 == 4) {
                due = 8 + name / 5 * 2;
            } else if (name % 3 == 0) {
                due = -1;
            } else if (name >= 7) {
                due = 8;
            } else {
                due = 1 + name;
            }
            exports += due == -1 ? 0 : 1;
            check.due("EXPORT " + name, due, x.ofBinding(0, name, 0));
        }
        check.due("how many", exports, x.ofLibrary(0, 1));
        LinkHarbour y = Harbours.withObjectsAndSections(1);
        for (int name = 0; name < 20; name++) {
            y.define(0, name, false, false);
        }
        y.item(1, 0);
        y.link(0, true);
        y.publish(0);
        check.due("as many as there can be", 20, y.ofLibrary(0, 1));
    }

    /** 3. Libraries: "its IMPORTS; and a set of LIBRARIES that it NEEDS" */
    private void importsOfALibrary() {
        LinkHarbour x = Harbours.withSections(3);
        for (int name = 1; name < 20; name++) {
            x.word(name / 8, name, 0, name % 2 == 0);
        }
        x.link(0, true);
        x.publish(0);
        check.due("no IMPORT of its own", 0, x.ofBinding(0, 0, 1));
        for (int name = 1; name < 20; name++) {
            check.due("IMPORT " + name, 1, x.ofBinding(0, name, 1));
            check.due("and no EXPORT", -1, x.ofBinding(0, name, 0));
        }
        check.due("as many as there can be", 19, x.ofLibrary(0, 2));
        check.due("none", 0, Harbours.withLibraries(0).ofLibrary(0, 2));
    }

    /** 3. Libraries: "its EXPORTS are the NAMES with a DEFINITION that is not HIDDEN, REACHED, each with its address" */
    private void exportsAreNoImports() {
        LinkHarbour x = Harbours.withSections(1);
        x.word(0, 19, 0, false);
        x.define(0, 19, true, true);
        x.link(0, true);
        x.publish(0);
        check.due("a HIDDEN one that it has a REFERENCE to is no EXPORT", -1, x.ofBinding(0, 19, 0));
        check.due("nor an IMPORT", 0, x.ofBinding(0, 19, 1));
        x.open(0, true);
        check.illegalState("so that it can't be called", () -> x.call(0, 19));
    }

    /**
     * 3. Libraries: "a set of LIBRARIES that it NEEDS (of 0 to 5, not itself; those that are not there yet do not
     * count so far)."
     */
    private void needsOf0To5() {
        for (int needs = 0; needs < 64; needs++) {
            for (int own = 0; own < 6; own++) {
                LinkHarbour x = Harbours.withLibraries(new int[own]);
                int set = needs;
                if ((needs >> own & 1) == 1) {
                    check.illegalArgument("NEEDS " + needs + " of " + own, () -> x.publish(set));
                } else {
                    check.due("NEEDS " + needs + " of " + own, own, x.publish(needs));
                    check.due("it NEEDS that", needs, x.ofLibrary(own, 3));
                    int there = Integer.bitCount(needs & (1 << own) - 1);
                    check.due("those that are there count", 1 + there, x.open(own, false));
                }
            }
        }
        LinkHarbour y = Harbours.withLibraries();
        check.illegalArgument("one beside 0 to 5", () -> y.publish(64));
        check.illegalArgument("below 0", () -> y.publish(-1));
    }

    /** 3. Libraries: "those that are not there yet do not count so far" */
    private void notThereYet() {
        LinkHarbour x = Harbours.withLibraries(62);
        for (int there = 1; there <= 6; there++) {
            check.due("LOADED by open() with " + there, 1, x.open(0, true));
            check.due("LOADED", there, x.many(4));
            check.due("GLOBAL", there, x.many(5));
            if (there < 6) {
                x.publish(0);
                check.due("not LOADED as it comes", there, x.many(4));
                check.due("not GLOBAL as it comes", there, x.many(5));
            }
        }
        for (int times = 1; times < 6; times++) {
            x.close(0);
        }
        check.due("all would go", 63, x.goes(0));
        LinkHarbour y = Harbours.withLibraries(2 + 4);
        y.open(0, false);
        check.due("it would go alone", 1, y.goes(0));
        y.publish(0);
        check.due("what is there and not LOADED would not go", 1, y.goes(0));
        check.due("nor does it", 1, y.close(0));
        check.due("it is LOADED by the next open()", 2, y.open(0, false));
    }

    /**
     * 3. Libraries: "As one is LOADED, it has a BASE: the smallest multiple of 64, from 64 on, that is not below BASE
     * and SIZE of any that is LOADED."
     */
    private void baseFrom64On() {
        for (int size : new int[] {1, 2, 63, 64, 65, 128, 321}) {
            LinkHarbour x = ofSizes(size);
            check.due("not LOADED", -1, x.ofLibrary(0, 5));
            x.open(0, false);
            check.due("the first BASE, with SIZE " + size, 64, x.ofLibrary(0, 5));
            x.close(0);
            check.due("not LOADED any more", -1, x.ofLibrary(0, 5));
            x.open(0, false);
            check.due("the first BASE again", 64, x.ofLibrary(0, 5));
        }
    }

    /** 3. Libraries: "the smallest multiple of 64, from 64 on, that is not below BASE and SIZE of any that is LOADED." */
    private void baseOfMultiples() {
        int[][] rows = {{1, 128}, {2, 128}, {63, 128}, {64, 128}, {65, 192}, {127, 192}, {128, 192}, {129, 256},
            {191, 256}, {192, 256}, {193, 320}, {256, 320}, {257, 384}, {320, 384}, {321, 448}};
        for (int[] row : rows) {
            LinkHarbour x = ofSizes(row[0], 1);
            x.open(0, false);
            x.open(1, false);
            check.due("BASE behind SIZE " + row[0], row[1], x.ofLibrary(1, 5));
        }
        LinkHarbour chain = ofSizes(64, 65, 63, 1, 128, 1);
        for (int library = 0; library < 6; library++) {
            chain.open(library, false);
        }
        ofAllDue(chain, "one behind the other", 5, 64, 128, 256, 320, 384, 512);
    }

    /** 3. Libraries: "that is not below BASE and SIZE of any that is LOADED." */
    private void baseOfAnyThatIsLoaded() {
        LinkHarbour x = ofSizes(1, 200, 1, 1);
        x.open(0, false);
        x.open(1, false);
        x.open(2, false);
        ofAllDue(x, "BASE", 5, 64, 128, 384, -1);
        x.close(1);
        x.open(3, false);
        ofAllDue(x, "not in a gap", 5, 64, -1, 384, 448);
        x.close(2);
        x.open(1, false);
        ofAllDue(x, "behind the greatest, not the latest", 5, 64, 512, -1, 448);
        x.close(3);
        x.open(3, false);
        ofAllDue(x, "behind its SIZE", 5, 64, 512, -1, 768);
        x.close(1);
        x.close(3);
        x.open(2, false);
        ofAllDue(x, "those that are not LOADED do not count", 5, 64, -1, 128, -1);
    }

    /** 3. Libraries: "the smallest multiple of 64, from 64 on, that is not below BASE and SIZE of any that is LOADED." */
    private void baseOfTheGreatest() {
        LinkHarbour x = Harbours.withObjects(1);
        for (int k = 0; k < 24; k++) {
            x.section(0, 16, true);
            Harbours.fillUp(x, k, 320);
        }
        for (int name = 0; name < 20; name++) {
            x.common(0, name, 40, 16);
        }
        x.item(1, 0);
        x.link(0, true);
        for (int k = 0; k < 6; k++) {
            x.publish(63 - (1 << k));
        }
        x.open(0, false);
        for (int k = 0; k < 6; k++) {
            check.due("the greatest SIZE", 8648, x.ofLibrary(k, 0));
            check.due("BASE", 64 + k * 8704, x.ofLibrary(k, 5));
        }
    }

    /** 3. Libraries: "The ROW of a LIBRARY: it; those that it NEEDS, by numbers" */
    private void rowOfOne() {
        for (int library = 0; library < 6; library++) {
            LinkHarbour x = Harbours.withLibraries(new int[6]);
            check.due("it alone", 1, x.open(library, true));
            check.due("it is LOADED", 64, x.ofLibrary(library, 5));
            check.due("it is GLOBAL", 0, x.ofLibrary(library, 6));
            check.due("no one else", 1, x.many(5));
            check.due("it would go alone", 1 << library, x.goes(library));
        }
    }

    /** 3. Libraries: "The ROW of a LIBRARY: it; those that it NEEDS, by numbers" */
    private void rowOfAll() {
        for (int library = 0; library < 6; library++) {
            LinkHarbour x = Harbours.withLibraries(62, 61, 59, 55, 47, 31);
            check.due("all", 6, x.open(library, true));
            int place = 1;
            for (int other = 0; other < 6; other++) {
                check.due("it, then by numbers", other == library ? 0 : place, x.ofLibrary(other, 6));
                check.due("BASE likewise", 64 * (other == library ? 1 : 1 + place), x.ofLibrary(other, 5));
                place += other == library ? 0 : 1;
            }
            check.due("all would go", 63, x.goes(library));
        }
    }

    /**
     * 3. Libraries: "The ROW of a LIBRARY: it; those that it NEEDS, by numbers; those that the first of these NEEDS, by
     * numbers; and so on, each once."
     */
    private void rowByBreadth() {
        LinkHarbour x = Harbours.withLibraries(8 + 16, 0, 0, 32, 2 + 4, 0);
        check.due("all", 6, x.open(0, true));
        ofAllDue(x, "place in the ROW", 6, 0, 4, 5, 1, 2, 3);
        ofAllDue(x, "BASE", 5, 64, 320, 384, 128, 192, 256);
        LinkHarbour chain = Harbours.withLibraries(0, 1, 2, 4, 8, 16);
        check.due("a chain from the last one", 6, chain.open(5, true));
        ofAllDue(chain, "place in the chain", 6, 5, 4, 3, 2, 1, 0);
        for (int library = 0; library < 6; library++) {
            LinkHarbour part = Harbours.withLibraries(0, 1, 2, 4, 8, 16);
            check.due("a chain from " + library, library + 1, part.open(library, false));
        }
    }

    /** 3. Libraries: "and so on, each once." */
    private void rowEachOnce() {
        LinkHarbour ring = Harbours.withLibraries(2, 4, 8, 16, 32, 1);
        check.due("a ring", 6, ring.open(3, true));
        ofAllDue(ring, "place in the ring", 6, 3, 4, 5, 0, 1, 2);
        check.due("GLOBAL, each once", 6, ring.many(5));
        LinkHarbour two = Harbours.withLibraries(2, 1);
        check.due("a ring of two", 2, two.open(1, true));
        ofAllDue(two, "place in the ring of two", 6, 1, 0);
        LinkHarbour fan = Harbours.withLibraries(2 + 4 + 8, 8, 8 + 2, 0);
        check.due("one that three NEED", 4, fan.open(0, true));
        ofAllDue(fan, "place in the fan", 6, 0, 1, 2, 3);
    }

    /** 3. Libraries: "To OPEN one: its COUNT is 1 more (0 at first)" */
    private void countIs0AtFirst() {
        LinkHarbour x = Harbours.withLibraries(2, 0);
        ofAllDue(x, "at first", 4, 0, 0);
        check.illegalState("so that it can't be closed", () -> x.close(0));
        for (int times = 1; times <= 20; times++) {
            check.due("LOADED by that", times == 1 ? 2 : 0, x.open(0, times % 2 == 0));
            ofAllDue(x, "1 more, and not of what it NEEDS", 4, times, 0);
        }
    }

    /** 3. Libraries: "and all in its ROW that are not LOADED are, one behind the other." */
    private void loadedOneBehindTheOther() {
        for (int first = 0; first < 6; first++) {
            LinkHarbour x = Harbours.withLibraries(62, 60, 56, 48, 32, 0);
            check.due("LOADED by the first one", 6 - first, x.open(first, false));
            check.due("LOADED by the other one", first, x.open(0, false));
            check.due("all", 6, x.many(4));
            for (int library = 0; library < 6; library++) {
                int due = library >= first ? library - first : 6 - first + library;
                check.due("BASE", 64 * (1 + due), x.ofLibrary(library, 5));
            }
        }
    }

    /**
     * 3. Libraries: "If it is opened GLOBALLY, all in its ROW (LOADED ahead of this or not) are put at the end of the
     * GLOBAL ones, in this order, if they are not among these."
     */
    private void globalAtTheEnd() {
        LinkHarbour x = Harbours.withLibraries(2, 0, 1, 2, 0, 0);
        x.open(3, true);
        ofAllDue(x, "the first two", 6, -1, 1, -1, 0, -1, -1);
        x.open(2, true);
        ofAllDue(x, "two at the end", 6, 3, 1, 2, 0, -1, -1);
        x.open(2, true);
        x.open(0, true);
        ofAllDue(x, "those that are among these stay", 6, 3, 1, 2, 0, -1, -1);
        x.open(5, false);
        check.due("not GLOBALLY", 4, x.many(5));
        x.open(4, true);
        x.open(5, true);
        ofAllDue(x, "all", 6, 3, 1, 2, 0, 4, 5);
        check.due("as many as there can be", 6, x.many(5));
    }

    /** 3. Libraries: "all in its ROW (LOADED ahead of this or not) are put at the end of the GLOBAL ones" */
    private void globalIfLoadedAheadOfThis() {
        LinkHarbour x = Harbours.withLibraries(6, 0, 0);
        x.open(0, false);
        check.due("all are LOADED", 3, x.many(4));
        check.due("none is GLOBAL", 0, x.many(5));
        check.due("LOADED by opening GLOBALLY", 0, x.open(0, true));
        ofAllDue(x, "all are GLOBAL", 6, 0, 1, 2);
        LinkHarbour y = Harbours.withLibraries(6, 0, 0);
        y.open(2, false);
        y.open(0, true);
        ofAllDue(y, "one ahead of this", 6, 0, 1, 2);
        LinkHarbour z = Harbours.withLibraries(6, 0, 0);
        z.open(2, true);
        z.open(0, false);
        ofAllDue(z, "not GLOBALLY: it stays as it was", 6, -1, -1, 0);
    }

    /**
     * 3. Libraries: "Behind that, those that were LOADED by this are INITIALISED: one goes to the opened one. Where
     * one goes to, one goes first, by numbers, to each that it NEEDS and to which one did not go yet; then it is
     * INITIALISED, if it was LOADED by this."
     */
    private void initialisedByDepth() {
        LinkHarbour x = Harbours.withLibraries(8 + 16, 0, 0, 32, 2 + 4, 0);
        x.open(0, true);
        ofAllDue(x, "a tree", 7, 5, 2, 3, 1, 4, 0);
        LinkHarbour fan = Harbours.withLibraries(2 + 4, 8, 2 + 8, 1);
        fan.open(0, false);
        ofAllDue(fan, "rings", 7, 3, 1, 2, 0);
        LinkHarbour all = Harbours.withLibraries(62, 61, 59, 55, 47, 31);
        all.open(0, false);
        ofAllDue(all, "all that NEED all: the farthest first", 7, 5, 4, 3, 2, 1, 0);
        LinkHarbour last = Harbours.withLibraries(62, 61, 59, 55, 47, 31);
        last.open(5, false);
        ofAllDue(last, "from the last one", 7, 4, 3, 2, 1, 0, 5);
        LinkHarbour one = Harbours.withLibraries(0);
        one.open(0, false);
        ofAllDue(one, "one alone", 7, 0);
    }

    /** 3. Libraries: "then it is INITIALISED, if it was LOADED by this." */
    private void initialisedThroughLoadedOnes() {
        LinkHarbour x = Harbours.withLibraries(2, 4);
        x.open(1, false);
        ofAllDue(x, "one", 7, -1, 0);
        x.publish(0);
        ofAllDue(x, "not as it comes", 7, -1, 0, -1);
        check.due("LOADED by that", 2, x.open(0, false));
        ofAllDue(x, "through one that was LOADED ahead of this", 7, 2, 0, 1);
        check.due("again", 0, x.open(1, true));
        ofAllDue(x, "each once", 7, 2, 0, 1);
    }

    /** 3. Libraries: "To CLOSE one that has a COUNT: this is 1 less." */
    private void countIs1Less() {
        LinkHarbour x = Harbours.withLibraries(2, 0);
        for (int times = 0; times < 10; times++) {
            x.open(0, false);
        }
        for (int left = 9; left >= 1; left--) {
            check.due("FINISHED, as there is a COUNT", 0, x.close(0));
            ofAllDue(x, "1 less, and not of what it NEEDS", 4, left, 0);
            check.due("all are LOADED", 2, x.many(4));
        }
        check.due("FINISHED by the last one", 2, x.close(0));
        ofAllDue(x, "0", 4, 0, 0);
        check.illegalState("no COUNT", () -> x.close(0));
        ofAllDue(x, "0 behind a refused one", 4, 0, 0);
    }

    /** 3. Libraries: "Then all that are LOADED, but those in the ROWS of those that have a COUNT above 0, are FINISHED" */
    private void rowsOfThoseThatHaveACount() {
        LinkHarbour x = Harbours.withLibraries(2, 4, 8, 16, 32, 0);
        x.open(0, false);
        x.open(3, false);
        check.due("the ROW of 3 stays", 3, x.close(0));
        ofAllDue(x, "LOADED", 5, -1, -1, -1, 256, 320, 384);
        x.open(5, false);
        x.open(5, false);
        check.due("5 stays", 2, x.close(3));
        check.due("as it has a COUNT still", 0, x.close(5));
        check.due("the last one", 1, x.close(5));
        LinkHarbour ring = Harbours.withLibraries(2, 4, 1);
        ring.open(0, false);
        ring.open(1, false);
        ring.open(2, false);
        check.due("a ring stays", 0, ring.close(1));
        check.due("by one of it", 0, ring.close(0));
        check.due("and goes with the last one", 3, ring.close(2));
    }

    /**
     * 3. Libraries: "in the opposite order to that in which they were INITIALISED, and are not LOADED, and not GLOBAL,
     * any more."
     */
    private void notLoadedAndNotGlobal() {
        LinkHarbour x = Harbours.withLibraries(0, 0, 0, 0, 0, 0);
        for (int library = 0; library < 6; library++) {
            x.open(library, true);
        }
        x.close(0);
        ofAllDue(x, "the first one: GLOBAL", 6, -1, 0, 1, 2, 3, 4);
        ofAllDue(x, "the first one: INITIALISED", 7, -1, 0, 1, 2, 3, 4);
        ofAllDue(x, "the first one: BASE", 5, -1, 128, 192, 256, 320, 384);
        x.close(5);
        ofAllDue(x, "the last one: GLOBAL", 6, -1, 0, 1, 2, 3, -1);
        x.close(3);
        ofAllDue(x, "one between: GLOBAL", 6, -1, 0, 1, -1, 2, -1);
        ofAllDue(x, "one between: INITIALISED", 7, -1, 0, 1, -1, 2, -1);
        check.due("LOADED", 3, x.many(4));
        check.due("GLOBAL", 3, x.many(5));
        x.open(0, false);
        ofAllDue(x, "LOADED again: not GLOBAL", 6, -1, 0, 1, -1, 2, -1);
        ofAllDue(x, "LOADED again: INITIALISED as the last one", 7, 3, 0, 1, -1, 2, -1);
        x.open(3, true);
        ofAllDue(x, "GLOBAL at the end", 6, -1, 0, 1, 3, 2, -1);
    }

    /** 3. Libraries: "What is bound to them is bound no more, nor are their own bindings." */
    private void boundNoMore() {
        LinkHarbour x = Harbours.withImports(2 + 32, 0, 0, 0, 0, 0, 0);
        for (int library = 0; library < 6; library++) {
            x.open(library, library == 1 || library == 5);
        }
        for (int library : new int[] {0, 2, 3, 4}) {
            check.due("call()", 1, x.call(library, 1));
        }
        check.due("bindings", 4, x.many(6));
        x.close(0);
        check.due("without its own", 3, x.many(6));
        x.close(4);
        check.due("without those of two", 2, x.many(6));
        x.close(5);
        check.due("nothing was BOUND to that", 2, x.many(6));
        x.close(1);
        check.due("both were BOUND to that", 0, x.many(6));
        for (int library = 0; library < 6; library++) {
            check.due("not BOUND", -1, x.ofBinding(library, 1, 2));
            check.due("nowhere", -1, x.ofBinding(library, 1, 3));
        }
        x.open(5, true);
        check.due("BOUND anew, to another one", 5, x.call(2, 1));
        x.open(1, true);
        check.due("not to the one of before, as it is not the first one", 5, x.call(3, 1));
    }

    /**
     * 3. Libraries: "those that are not there yet do not count so far" (and, from then on, they do, also as one is
     * closed)
     */
    private void rowsAsTheyAreNow() {
        LinkHarbour x = Harbours.withLibraries(2);
        x.open(0, false);
        x.publish(0);
        x.open(1, false);
        check.due("it is in the ROW of one that has a COUNT", 0, x.goes(1));
        check.due("so that it stays LOADED", 0, x.close(1));
        check.due("both", 2, x.many(4));
        check.due("both would go", 3, x.goes(0));
        check.due("and go", 2, x.close(0));
        LinkHarbour y = Harbours.withLibraries(2);
        y.open(0, true);
        y.publish(0);
        y.publish(1);
        check.due("those that are not LOADED, of the ROW 2, 0, 1", 2, y.open(2, false));
        int[] places = {0, 1, 2};
        for (int library = 0; library < 3; library++) {
            check.due("one goes to 1 by 0, that was LOADED ahead of this", places[library], y.ofLibrary(library, 7));
        }
        check.due("1 is not GLOBAL by 0, that was opened GLOBALLY ahead of it", 1, y.many(5));
        check.due("1 stays, as 0 NEEDS it", 4, y.goes(2));
    }

    /**
     * 3. Libraries: "To CALL a NAME from a LOADED LIBRARY that IMPORTS it: if it is not BOUND, it is now: to the first
     * one that EXPORTS it: of the GLOBAL ones"
     */
    private void firstOfTheGlobalOnes() {
        for (int first = 1; first < 6; first++) {
            LinkHarbour x = Harbours.withImports(62, 0, 0, 0, 0, 0, 0);
            x.open(0, true);
            for (int turn = 0; turn < 5; turn++) {
                x.open(1 + (first - 1 + turn) % 5, true);
            }
            check.due("the one that is GLOBAL as the first one", first, x.wouldBind(0, 1));
            check.due("call()", first, x.call(0, 1));
            x.close(first);
            check.due("then the next one", 1 + first % 5, x.call(0, 1));
        }
        LinkHarbour y = Harbours.withImports(2 + 4, 2, 0, 0);
        y.open(0, false);
        y.open(2, true);
        check.due("ahead of its own ROW", 2, y.call(0, 1));
        LinkHarbour z = Harbours.withImports(2 + 4, 2, 0, 0);
        z.open(0, false);
        z.open(2, false);
        check.due("not one that is LOADED and not GLOBAL", 1, z.call(0, 1));
    }

    /** 3. Libraries: "then of its own ROW" */
    private void thenOfItsOwnRow() {
        LinkHarbour chain = Harbours.withImports(32, 2, 4, 8, 16, 32, 0);
        chain.open(0, false);
        for (int library = 0; library < 5; library++) {
            check.due("at the end of the ROW", 5, chain.call(library, 1));
        }
        LinkHarbour breadth = Harbours.withImports(2 + 8, 16 + 4, 0, 8, 0, 2);
        breadth.open(0, false);
        check.due("by breadth", 3, breadth.call(0, 1));
        check.due("from another one", 1, breadth.call(4, 1));
        LinkHarbour back = Harbours.withImports(2, 0, 1);
        back.open(1, false);
        check.due("not one that NEEDS it", -1, back.call(0, 1));
        LinkHarbour other = Harbours.withImports(2, 0, 0, 2);
        other.open(0, false);
        other.open(2, false);
        check.due("not one that is in the ROW of another one alone", -1, other.call(0, 1));
        check.due("for that one it is", 1, other.call(2, 1));
        check.due("it would not be for the first one, still", -1, other.wouldBind(0, 1));
    }

    /** 3. Libraries: "then of its own ROW, passing over what is not LOADED." */
    private void passingOverWhatIsNotLoaded() {
        LinkHarbour x = Harbours.withImports(2 + 4, 6);
        x.open(0, false);
        x.clear();
        x.item(1, 0);
        x.link(0, true);
        x.publish(0);
        check.due("an exporter that is not LOADED", -1, x.call(0, 1));
        x.publish(0);
        x.open(2, false);
        check.due("the first one is not LOADED, the second one is", 2, x.call(0, 1));
        check.due("it would be so", 2, x.wouldBind(0, 1));
        x.open(0, false);
        check.due("LOADED, it would be the first one", 1, x.wouldBind(0, 1));
    }

    /** 3. Libraries: "It stays BOUND, also if a better one comes." */
    private void staysBound() {
        LinkHarbour x = Harbours.withImports(2 + 4 + 8, 8, 0, 0, 0);
        x.open(0, false);
        check.due("of its ROW", 3, x.call(0, 1));
        x.open(2, true);
        check.due("a GLOBAL one would be better", 2, x.wouldBind(0, 1));
        check.due("it stays", 3, x.call(0, 1));
        check.due("1 binding", 1, x.many(6));
        x.open(1, true);
        x.close(2);
        check.due("it stays", 3, x.call(0, 1));
        x.close(0);
        x.open(0, false);
        check.due("LOADED again, it is BOUND anew", 1, x.call(0, 1));
    }

    /** 3. Libraries: "Without one it is not BOUND." */
    private void withoutOneItIsNotBound() {
        LinkHarbour x = Harbours.withImports(2, 0, 0);
        x.open(0, true);
        for (int times = 0; times < 3; times++) {
            check.due("without one", -1, x.call(0, 1));
            check.due("no binding", 0, x.many(6));
            check.due("no one EXPORTS 19", -1, x.call(0, 19));
        }
        x.open(1, true);
        check.due("with one", 1, x.call(0, 1));
        check.due("1 binding", 1, x.many(6));
        check.due("no one EXPORTS 19", -1, x.call(0, 19));
        check.due("from the other one", -1, x.call(1, 19));
        check.due("1 binding still", 1, x.many(6));
    }

    /**
     * Promise 18: "Publishes the latest link."; Promise 18: "Returns its number."
     */
    private void promise18() {
        LinkHarbour x = Harbours.withSections(1);
        x.link(0, true);
        check.due("the first one", 0, x.publish(0));
        x.fill(0, 9);
        check.due("the latest link, not what there is now", 1, x.publish(0));
        x.link(0, true);
        x.clear();
        check.due("also if the ITEMS are away", 2, x.publish(0));
        x.sizeWith(1);
        x.faultsWithout(0);
        check.due("not what would be", 3, x.publish(0));
        x.publish(0);
        check.due("the last one", 5, x.publish(0));
        ofAllDue(x, "SIZE", 0, 1, 1, 10, 10, 10, 10);
    }

    /** Promise 19: "OPENS a LIBRARY."; Promise 19: "Returns how many were LOADED by that." */
    private void promise19() {
        LinkHarbour x = Harbours.withLibraries(0, 0, 3, 4, 8, 16 + 1);
        check.due("one", 1, x.open(0, false));
        check.due("none", 0, x.open(0, true));
        check.due("all but that", 5, x.open(5, false));
        check.due("none", 0, x.open(2, false));
        LinkHarbour y = Harbours.withLibraries(0, 0, 3, 4, 8, 16 + 1);
        check.due("all", 6, y.open(5, true));
    }

    /** Promise 20: "CLOSES a LIBRARY."; Promise 20: "Returns how many were FINISHED by that." */
    private void promise20() {
        LinkHarbour x = Harbours.withLibraries(0, 0, 3, 4, 8, 16 + 1);
        x.open(5, false);
        x.open(0, false);
        x.open(0, false);
        check.due("none", 0, x.close(0));
        check.due("none, as another one NEEDS it", 0, x.close(0));
        check.due("all", 6, x.close(5));
        x.open(0, false);
        check.due("one", 1, x.close(0));
        x.open(5, false);
        x.open(2, false);
        check.due("all but the ROW of 2", 3, x.close(5));
        check.due("the ROW of 2", 3, x.close(2));
    }

    /**
     * Promise 21: "CALLS a NAME from a LIBRARY."; Promise 21: "Returns the LIBRARY to which it is BOUND then; NONE
     * without one."
     */
    private void promise21() {
        for (int to = 0; to < 6; to++) {
            LinkHarbour x = Harbours.withImports(1 << to, 63 - 1, 63 - 2, 63 - 4, 63 - 8, 63 - 16, 63 - 32);
            x.open(0, to % 2 == 0);
            for (int from = 0; from < 6; from++) {
                int library = from;
                if (from == to) {
                    check.illegalState("it EXPORTS that", () -> x.call(library, 1));
                } else {
                    check.due("call() from " + from, to, x.call(from, 1));
                    check.due("again", to, x.call(from, 1));
                }
                check.due("without one", -1, x.call(from, 19));
            }
            check.due("bindings", 5, x.many(6));
        }
    }

    private void bindingDue(LinkHarbour x, String when, int library, int name, int... due) {
        for (int what = 0; what <= 3; what++) {
            check.due(when + ": " + library + ", " + name + ", " + what, due[what], x.ofBinding(library, name, what));
        }
    }

    /**
     * Promise 22: "0 its address among the EXPORTS (NONE), 1 1 if it is IMPORTED, otherwise 0, 2 the LIBRARY to which
     * that is BOUND (NONE), 3 where it is then: BASE of that, and the address there (NONE)"; Promise 22: "Returns
     * that."
     */
    private void promise22() {
        LinkHarbour x = Harbours.withImports(32, 2, 4, 8, 16, 32, 0);
        bindingDue(x, "not LOADED: EXPORT", 5, 1, 2, 0, -1, -1);
        bindingDue(x, "not LOADED: IMPORT", 0, 1, -1, 1, -1, -1);
        bindingDue(x, "not LOADED: HIDDEN", 0, 0, -1, 0, -1, -1);
        bindingDue(x, "not LOADED: neither", 0, 18, -1, 0, -1, -1);
        bindingDue(x, "not LOADED: IMPORT 19", 5, 19, -1, 1, -1, -1);
        x.open(0, false);
        bindingDue(x, "LOADED, ahead of the call", 0, 1, -1, 1, -1, -1);
        x.call(0, 1);
        x.call(0, 19);
        bindingDue(x, "BOUND", 0, 1, -1, 1, 5, 384 + 2);
        bindingDue(x, "not BOUND, without one", 0, 19, -1, 1, -1, -1);
        bindingDue(x, "from another one", 1, 1, -1, 1, -1, -1);
        x.close(0);
        bindingDue(x, "not LOADED any more", 0, 1, -1, 1, -1, -1);
    }

    /** Promise 22: "3 where it is then: BASE of that, and the address there (NONE)" */
    private void promise22AsItIsLoaded() {
        LinkHarbour x = Harbours.withImports(2, 0, 0, 0);
        x.open(2, false);
        x.open(0, false);
        x.open(1, true);
        x.call(0, 1);
        bindingDue(x, "behind two", 0, 1, -1, 1, 1, 192 + 2);
        x.close(2);
        bindingDue(x, "another one goes", 0, 1, -1, 1, 1, 192 + 2);
        x.close(1);
        bindingDue(x, "that one goes", 0, 1, -1, 1, -1, -1);
        x.close(0);
        x.open(1, true);
        x.open(0, false);
        bindingDue(x, "not ahead of a call", 0, 1, -1, 1, -1, -1);
        x.call(0, 1);
        bindingDue(x, "by another BASE", 0, 1, -1, 1, 1, 64 + 2);
    }

    /**
     * Promise 23: "0 its SIZE, 1 how many EXPORTS, 2 how many IMPORTS, 3 what it NEEDS, as it was published, 4 its
     * COUNT, 5 its BASE, 6 its place among the GLOBAL ones, 7 its place among all that are INITIALISED, in the order in
     * which they were (5 to 7: NONE, if it is not LOADED, or not GLOBAL)"; Promise 23: "Returns that."
     */
    private void promise23() {
        LinkHarbour x = Harbours.withImports(1, 62, 0, 0, 0, 0, 31);
        int[][] due = {{3, 1, 1, 62, 0, -1, -1, -1}, {3, 0, 2, 31, 0, -1, -1, -1}};
        for (int what = 0; what <= 7; what++) {
            check.due("the first one: " + what, due[0][what], x.ofLibrary(0, what));
            check.due("the last one: " + what, due[1][what], x.ofLibrary(5, what));
        }
        x.open(0, true);
        int[][] opened = {{3, 1, 1, 62, 1, 64, 0, 5}, {3, 0, 2, 31, 0, 384, 5, 4}};
        for (int what = 0; what <= 7; what++) {
            check.due("opened: the first one: " + what, opened[0][what], x.ofLibrary(0, what));
            check.due("opened: the last one: " + what, opened[1][what], x.ofLibrary(5, what));
        }
        ofAllDue(x, "INITIALISED", 7, 5, 0, 1, 2, 3, 4);
        check.due("what is not there yet is NEEDED nevertheless", 62, Harbours.withLibraries(62).ofLibrary(0, 3));
    }

    /** Promise 23: "(5 to 7: NONE, if it is not LOADED, or not GLOBAL)" */
    private void promise23NotLoaded() {
        LinkHarbour x = Harbours.withLibraries(0, 0);
        x.open(0, false);
        check.due("LOADED: BASE", 64, x.ofLibrary(0, 5));
        check.due("LOADED: not GLOBAL", -1, x.ofLibrary(0, 6));
        check.due("LOADED: INITIALISED", 0, x.ofLibrary(0, 7));
        for (int what = 5; what <= 7; what++) {
            check.due("not LOADED: " + what, -1, x.ofLibrary(1, what));
        }
        x.open(0, true);
        check.due("GLOBAL", 0, x.ofLibrary(0, 6));
        x.close(0);
        check.due("COUNT is 1: still GLOBAL", 0, x.ofLibrary(0, 6));
        x.close(0);
        for (int what = 5; what <= 7; what++) {
            check.due("not LOADED any more: " + what, -1, x.ofLibrary(0, what));
        }
    }

    /** Promise 24: "of the latest link (0 ahead of all)" */
    private void promise24AheadOfAllLinks() {
        LinkHarbour empty = new LinkHarbour();
        LinkHarbour x = Harbours.withSections(2);
        x.jump(0, 19, false);
        for (int what = 0; what <= 12; what++) {
            check.due("of a new one: " + what, 0, empty.many(what));
        }
        for (int what = 7; what <= 12; what++) {
            check.due("ahead of all links: " + what, 0, x.many(what));
        }
        empty.link(0, false);
        int[] due = {0, 0, 0, 0, 0, 0, 0, 0, 0, 1, 1, 0, 0};
        for (int what = 0; what <= 12; what++) {
            check.due("of a link of nothing: " + what, due[what], empty.many(what));
        }
    }

    /**
     * Promise 24: "0 OBJECTS, 1 SECTIONS, 2 ITEMS, 3 LIBRARIES, 4 LOADED ones, 5 GLOBAL ones, 6 bindings; of the
     * latest link (0 ahead of all): 7 OBJECTS that were TAKEN, 8 SECTIONS that were REACHED, 9 SIZE, 10 FAULTS, 11 LONG
     * JUMPS, 12 IMPORTS"; Promise 24: "Returns that."
     */
    private void promise24() {
        LinkHarbour x = Harbours.withObjects(10);
        for (int k = 0; k < 24; k++) {
            x.section(k % 10, 1, true);
            if (k == 0) {
                x.define(0, 0, false, false);
            }
            for (int piece = 0; piece < 8; piece++) {
                x.jump(k, piece == 0 ? k % 20 : 0, false);
            }
        }
        for (int k = 0; k < 7; k++) {
            x.item(1 << k, 0);
        }
        x.item(128 + 256 + 512, 0);
        x.bounds(1, 9999);
        x.link(0, true);
        for (int k = 0; k < 6; k++) {
            x.publish(63 - (1 << k));
        }
        x.open(5, true);
        int[] due = {10, 24, 8, 6, 6, 6, 0, 10, 24, 961, 0, 192, 19};
        for (int what = 0; what <= 12; what++) {
            check.due("as many as there can be: " + what, due[what], x.many(what));
        }
        x.bounds(500, 9999);
        x.link(0, false);
        check.due("FAULT 3 of each JUMP but those to NAME 0", 22, x.many(10));
        check.due("no IMPORTS", 0, x.many(12));
        x.clear();
        x.close(5);
        x.link(0, true);
        int[] left = {10, 24, 0, 6, 0, 0, 0, 0, 0, 1, 1, 0, 0};
        for (int what = 0; what <= 12; what++) {
            check.due("of a link of nothing: " + what, left[what], x.many(what));
        }
    }

    /** Promise 24: "6 bindings" */
    private void promise24Bindings() {
        LinkHarbour x = Harbours.withObjects(6);
        for (int k = 0; k < 16; k++) {
            x.section(k / 3, 1, true);
        }
        for (int name = 0; name < 20; name++) {
            x.define(15, name, false, false);
        }
        for (int object = 0; object < 5; object++) {
            x.define(object * 3, 19 - object, false, true);
            for (int name = 0; name < 20; name++) {
                if (name != 19 - object) {
                    x.word(object * 3 + name / 8, name, 0, true);
                }
            }
        }
        for (int object = 0; object < 6; object++) {
            x.clear();
            x.item(1 << object, 0);
            x.link(19 - object, true);
            x.publish(0);
            x.open(object, object == 5);
        }
        int bindings = 0;
        for (int library = 0; library < 5; library++) {
            for (int name = 0; name < 20; name++) {
                if (name != 19 - library) {
                    check.due("call()", 5, x.call(library, name));
                    bindings++;
                    check.due("bindings", bindings, x.many(6));
                }
            }
        }
        check.due("all", 95, x.many(6));
        x.close(0);
        check.due("without those of one", 76, x.many(6));
        x.close(5);
        check.due("none", 0, x.many(6));
    }

    /** Promise 25: "0 ahead of all links." */
    private void promise25AheadOfAllLinks() {
        check.due("of a new one", 0.0, new LinkHarbour().usedPart());
        LinkHarbour x = Harbours.withSections(1);
        x.fill(0, 1);
        check.due("ahead of all links", 0.0, x.usedPart());
        check.illegalArgument("a refused link is none", () -> x.link(20, false));
        check.due("ahead of all links, still", 0.0, x.usedPart());
        x.link(0, false);
        check.due("behind one", 0.5, x.usedPart());
    }

    /**
     * Promise 25: "Returns which part of the SIZE of the latest link is words of SECTIONS and COMMON ones, not cut"
     */
    private void promise25() {
        LinkHarbour x = Harbours.withSections(1);
        x.link(0, false);
        check.due("0 of 1", 0.0, x.usedPart());
        for (int words = 1; words <= 8; words++) {
            x.fill(0, 1);
            x.link(0, false);
            check.due(words + " of " + (words + 1), (double) words / (words + 1), x.usedPart());
        }
        LinkHarbour all = Harbours.withSections(24);
        for (int k = 0; k < 24; k++) {
            Harbours.fillUp(all, k, 320);
            all.link(0, false);
            int words = 320 * (k + 1);
            check.due("all but the word at 0", (double) words / (words + 1), all.usedPart());
        }
        LinkHarbour gap = Harbours.withObjects(1);
        gap.section(0, 16, true);
        gap.item(1, 0);
        gap.link(0, false);
        check.due("0 of 16", 0.0, gap.usedPart());
        gap.word(0, 1, 0, true);
        gap.jump(0, 1, true);
        gap.common(0, 0, 40, 16);
        gap.link(0, false);
        check.due("a WORD, a SHORT JUMP and a COMMON one of 72", 43.0 / 72.0, gap.usedPart());
        gap.bounds(1, 9999);
        gap.link(0, false);
        check.due("a LONG JUMP", 46.0 / 72.0, gap.usedPart());
        gap.link(2, false);
        check.due("without the COMMON one", 6.0 / 22.0, gap.usedPart());
        gap.fill(0, 1);
        gap.sizeWith(500);
        check.due("of the latest link", 6.0 / 22.0, gap.usedPart());
    }
}
