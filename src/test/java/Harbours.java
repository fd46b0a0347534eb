/** Harbours that several tests begin with. */
final class Harbours {
    static final int LEAST = Integer.MIN_VALUE;
    static final int MOST = Integer.MAX_VALUE;

    private Harbours() {
    }

    /** Numbers that are not of low to high: just beyond these, and far away. */
    static int[] outside(int low, int high) {
        return new int[] {LEAST, low - 2, low - 1, high + 1, high + 2, MOST};
    }

    /** OBJECTS and nothing else. */
    static LinkHarbour withObjects(int count) {
        LinkHarbour x = new LinkHarbour();
        for (int k = 0; k < count; k++) {
            x.object();
        }
        return x;
    }

    /** One OBJECT, in a PLAIN ITEM, with SECTIONS that are KEPT, ALIGN 1; NAME 0 is where the first one begins. */
    static LinkHarbour withSections(int count) {
        LinkHarbour x = withObjects(1);
        for (int k = 0; k < count; k++) {
            x.section(0, 1, true);
        }
        if (count > 0) {
            x.define(0, 0, false, false);
        }
        x.item(1, 0);
        return x;
    }

    /** OBJECTS with one SECTION each, of the same number, ALIGN 1, that is not KEPT. They are in no ITEM. */
    static LinkHarbour withObjectsAndSections(int count) {
        LinkHarbour x = withObjects(count);
        for (int k = 0; k < count; k++) {
            x.section(k, 1, false);
        }
        return x;
    }

    /** Adds FILLS until the SECTION has so many words more. */
    static void fillUp(LinkHarbour x, int section, int words) {
        for (int left = words; left > 0; left -= 40) {
            x.fill(section, Math.min(left, 40));
        }
    }

    /** LIBRARIES with an image of SIZE 1 that EXPORTS NAME 0 at address 1, and that NEED those. */
    static LinkHarbour withLibraries(int... needs) {
        LinkHarbour x = withSections(1);
        x.link(0, true);
        for (int need : needs) {
            x.publish(need);
        }
        return x;
    }

    /**
     * LIBRARIES that NEED those; each IMPORTS NAME 19. Those in the set that exporters tells EXPORT NAME 1 as well,
     * and the others IMPORT it. SIZE of all is 3.
     */
    static LinkHarbour withImports(int exporters, int... needs) {
        LinkHarbour x = withObjects(2);
        x.section(0, 1, true);
        x.section(1, 1, true);
        x.define(0, 0, false, true);
        x.define(1, 0, false, true);
        x.word(0, 19, 0, false);
        x.word(1, 19, 0, false);
        x.define(0, 1, false, false);
        x.word(1, 1, 0, false);
        x.fill(0, 1);
        for (int k = 0; k < needs.length; k++) {
            x.clear();
            x.item((exporters >> k & 1) == 1 ? 1 : 2, 0);
            x.link(0, true);
            x.publish(needs[k]);
        }
        return x;
    }
}
