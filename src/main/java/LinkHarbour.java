/**
 * A linker and a loader: objects come with sections, symbols and references, are linked to an image,
 * and images are published as libraries that are opened, closed and called.
 * The words in capitals are those of ../shared/DOC.md.
 */
public final class LinkHarbour {
    private static final int NONE = -1;

    private static final int MAX_OBJECTS = 10;
    private static final int MAX_SECTIONS = 24;
    private static final int MAX_PIECES = 8;
    private static final int MAX_ITEMS = 8;
    private static final int MAX_LIBRARIES = 6;
    private static final int NAMES = 20;
    private static final int ALL_PIECES = MAX_SECTIONS * MAX_PIECES;

    private static final int MAX_WORDS = 40;
    private static final int MAX_ADDED = 50;
    private static final int MAX_REACH = 500;
    private static final int MAX_LIMIT = 9999;
    private static final int FIRST_REACH = 40;

    private static final int FILL = 0;
    private static final int WORD = 1;
    private static final int JUMP = 2;
    private static final int SHORT_WORDS = 2;
    private static final int LONG_WORDS = 5;

    // A smaller number is the one that wins when a NAME is settled.
    private static final int STRONG = 0;
    private static final int COMMON = 1;
    private static final int WEAK = 2;

    private static final int PLAIN = 0;
    private static final int GROUPED = 2;

    private static final int FIRST_ADDRESS = 1;
    private static final int BASE_STEP = 64;

    private static final int FAULT_TWICE_STRONG = 1;
    private static final int FAULT_NO_ENTRY = 2;
    private static final int FAULT_NO_DEFINITION = 3;
    private static final int FAULT_OUT_OF_LIMIT = 4;
    private static final int FAULT_PARTS = 4;
    private static final int MAX_FAULTS = NAMES + 1 + 2 * ALL_PIECES;

    private static final long DIGEST_START = 58133L;
    private static final long DIGEST_FACTOR = 31L;
    private static final int DIGEST_REACH = 10;

    private final ObjectTable objects = new ObjectTable();
    private final SectionTable sections = new SectionTable();
    private final ItemRow items = new ItemRow();
    private final LibraryTable libraries = new LibraryTable();
    private final Image image = new Image();
    private final Link latest;
    // What would be is linked here, so that the latest link stays as it was.
    private final Link trial;
    private int reach = FIRST_REACH;
    private int limit = MAX_LIMIT;

    public LinkHarbour() {
        latest = new Link(objects, sections, items);
        trial = new Link(objects, sections, items);
    }

    // ---- objects

    public int object() throws IllegalStateException {
        if (objects.isFull()) {
            throw new IllegalStateException("there are 10 OBJECTS");
        }
        return objects.add();
    }

    public int section(int object, int align, boolean isKept)
            throws IndexOutOfBoundsException, IllegalArgumentException, IllegalStateException {
        if (!objects.has(object)) {
            throw new IndexOutOfBoundsException("no such OBJECT");
        }
        if (!isAlign(align)) {
            throw new IllegalArgumentException("no ALIGN");
        }
        if (sections.isFull()) {
            throw new IllegalStateException("there are 24 SECTIONS");
        }
        return sections.add(object, align, isKept);
    }

    public int fill(int section, int words)
            throws IndexOutOfBoundsException, IllegalArgumentException, IllegalStateException {
        if (!sections.has(section)) {
            throw new IndexOutOfBoundsException("no such SECTION");
        }
        if (words < 1 || words > MAX_WORDS) {
            throw new IllegalArgumentException("words are not 1 to 40");
        }
        if (sections.isFilled(section)) {
            throw new IllegalStateException("the SECTION has 8 PIECES");
        }
        return sections.addPiece(section, FILL, words, 0, false);
    }

    public int word(int section, int name, int added, boolean isWeak)
            throws IndexOutOfBoundsException, IllegalArgumentException, IllegalStateException {
        if (!sections.has(section)) {
            throw new IndexOutOfBoundsException("no such SECTION");
        }
        if (!isName(name) || added < -MAX_ADDED || added > MAX_ADDED) {
            throw new IllegalArgumentException("no NAME, or ADDED is not -50 to 50");
        }
        if (sections.isFilled(section)) {
            throw new IllegalStateException("the SECTION has 8 PIECES");
        }
        return addReference(section, WORD, name, added, isWeak);
    }

    public int jump(int section, int name, boolean isWeak)
            throws IndexOutOfBoundsException, IllegalArgumentException, IllegalStateException {
        if (!sections.has(section)) {
            throw new IndexOutOfBoundsException("no such SECTION");
        }
        if (!isName(name)) {
            throw new IllegalArgumentException("no NAME");
        }
        if (sections.isFilled(section)) {
            throw new IllegalStateException("the SECTION has 8 PIECES");
        }
        return addReference(section, JUMP, name, 0, isWeak);
    }

    public int define(int section, int name, boolean isWeak, boolean isHidden)
            throws IndexOutOfBoundsException, IllegalArgumentException, IllegalStateException {
        if (!sections.has(section)) {
            throw new IndexOutOfBoundsException("no such SECTION");
        }
        if (!isName(name)) {
            throw new IllegalArgumentException("no NAME");
        }
        int object = sections.objectOf(section);
        if (objects.kind(object, name) != NONE) {
            throw new IllegalStateException("the OBJECT defines that already");
        }
        int place = sections.pieces(section);
        objects.addDefinition(object, name, isWeak ? WEAK : STRONG, section, place);
        if (isHidden) {
            objects.hide(object, name);
        }
        return place;
    }

    public int common(int object, int name, int size, int align)
            throws IndexOutOfBoundsException, IllegalArgumentException, IllegalStateException {
        if (!objects.has(object)) {
            throw new IndexOutOfBoundsException("no such OBJECT");
        }
        if (!isName(name) || size < 1 || size > MAX_WORDS || !isAlign(align)) {
            throw new IllegalArgumentException("no NAME, size is not 1 to 40, or no ALIGN");
        }
        if (objects.kind(object, name) != NONE) {
            throw new IllegalStateException("the OBJECT defines that already");
        }
        objects.addCommon(object, name, size, align);
        return Integer.bitCount(objects.defined(object));
    }

    public int item(int objects, int kind) throws IllegalArgumentException, IllegalStateException {
        if (objects < 1 || !this.objects.hasAll(objects) || kind < PLAIN || kind > GROUPED) {
            throw new IllegalArgumentException("no set of OBJECTS, or no kind of ITEM");
        }
        if (items.isFull() || items.hasAny(objects)) {
            throw new IllegalStateException("there are 8 ITEMS, or an OBJECT is in another one");
        }
        return items.add(objects, kind);
    }

    public int clear() {
        return items.removeAll();
    }

    public int ofObject(int object, int what) throws IndexOutOfBoundsException, IllegalArgumentException {
        if (!objects.has(object)) {
            throw new IndexOutOfBoundsException("no such OBJECT");
        }
        switch (what) {
            case 0:
                return sections.countOf(object);
            case 1:
                return Integer.bitCount(objects.defined(object));
            case 2:
                return items.itemOf(object);
            case 3:
                return latest.taking.placeOf(object);
            default:
                throw new IllegalArgumentException("what is not 0 to 3");
        }
    }

    // ---- links

    public int bounds(int reach, int limit) throws IllegalArgumentException {
        if (!isReach(reach) || limit < 0 || limit > MAX_LIMIT) {
            throw new IllegalArgumentException("reach is not 1 to 500, or limit is not 0 to 9999");
        }
        int before = this.reach;
        this.reach = reach;
        this.limit = limit;
        return before;
    }

    public int link(int entry, boolean isShared) throws IllegalArgumentException {
        if (!isName(entry)) {
            throw new IllegalArgumentException("no NAME");
        }
        latest.run(entry, isShared, reach, limit, NONE);
        latest.writeTo(image);
        return latest.faults.count();
    }

    public int ofSection(int section, int what) throws IndexOutOfBoundsException, IllegalArgumentException {
        if (!sections.has(section)) {
            throw new IndexOutOfBoundsException("no such SECTION");
        }
        switch (what) {
            case 0:
                return sections.objectOf(section);
            case 1:
                return sections.align(section);
            case 2:
                return sections.pieces(section);
            case 3:
                return latest.reaching.hasSection(section) ? 1 : 0;
            case 4:
                return latest.layout.addressOf(section);
            case 5:
                return latest.layout.wordsOf(section);
            case 6:
                return latest.layout.longsOf(section);
            default:
                throw new IllegalArgumentException("what is not 0 to 6");
        }
    }

    public int ofName(int name, int what) throws IllegalArgumentException {
        if (!isName(name)) {
            throw new IllegalArgumentException("no NAME");
        }
        switch (what) {
            case 0:
                return latest.settling.kind(name);
            case 1:
                return latest.settling.objectOf(name);
            case 2:
                return latest.layout.addressOfName(name);
            case 3:
                return latest.reaching.isImport(name) ? 1 : 0;
            case 4:
                return latest.reaching.references(name);
            default:
                throw new IllegalArgumentException("what is not 0 to 4");
        }
    }

    public int fault(int k, int what) throws IndexOutOfBoundsException, IllegalArgumentException {
        if (k < 0 || k >= latest.faults.count()) {
            throw new IndexOutOfBoundsException("no such FAULT");
        }
        if (what < 0 || what >= FAULT_PARTS) {
            throw new IllegalArgumentException("what is not 0 to 3");
        }
        return latest.faults.part(k, what);
    }

    public int wordAt(int address) throws IndexOutOfBoundsException {
        if (address < 0 || address >= latest.layout.size()) {
            throw new IndexOutOfBoundsException("no such address");
        }
        return image.read(address);
    }

    // ---- libraries

    public int publish(int needs) throws IllegalArgumentException, IllegalStateException {
        if (needs < 0 || needs >= 1 << MAX_LIBRARIES || hasBit(needs, libraries.count())) {
            throw new IllegalArgumentException("needs is not 0 to 63, or has its own number");
        }
        if (libraries.isFull() || !latest.isDone() || !latest.isShared() || latest.faults.count() > 0) {
            throw new IllegalStateException("there are 6 LIBRARIES, or no SHARED link without FAULTS");
        }
        return libraries.add(latest, needs);
    }

    public int open(int library, boolean isGlobal) throws IndexOutOfBoundsException {
        if (!libraries.has(library)) {
            throw new IndexOutOfBoundsException("no such LIBRARY");
        }
        return libraries.openOne(library, isGlobal);
    }

    public int close(int library) throws IndexOutOfBoundsException, IllegalStateException {
        if (!libraries.has(library)) {
            throw new IndexOutOfBoundsException("no such LIBRARY");
        }
        if (libraries.opened(library) == 0) {
            throw new IllegalStateException("its COUNT is 0");
        }
        return libraries.closeOne(library);
    }

    public int call(int library, int name)
            throws IndexOutOfBoundsException, IllegalArgumentException, IllegalStateException {
        if (!libraries.has(library)) {
            throw new IndexOutOfBoundsException("no such LIBRARY");
        }
        if (!isName(name)) {
            throw new IllegalArgumentException("no NAME");
        }
        if (!libraries.isLoaded(library) || !libraries.isImport(library, name)) {
            throw new IllegalStateException("it is not LOADED, or does not IMPORT that");
        }
        return libraries.bind(library, name);
    }

    public int ofBinding(int library, int name, int what)
            throws IndexOutOfBoundsException, IllegalArgumentException {
        if (!libraries.has(library)) {
            throw new IndexOutOfBoundsException("no such LIBRARY");
        }
        if (!isName(name)) {
            throw new IllegalArgumentException("no NAME");
        }
        switch (what) {
            case 0:
                return libraries.exportAddress(library, name);
            case 1:
                return libraries.isImport(library, name) ? 1 : 0;
            case 2:
                return libraries.boundTo(library, name);
            case 3:
                return libraries.boundAddress(library, name);
            default:
                throw new IllegalArgumentException("what is not 0 to 3");
        }
    }

    public int ofLibrary(int library, int what) throws IndexOutOfBoundsException, IllegalArgumentException {
        if (!libraries.has(library)) {
            throw new IndexOutOfBoundsException("no such LIBRARY");
        }
        switch (what) {
            case 0:
                return libraries.size(library);
            case 1:
                return Integer.bitCount(libraries.exports(library));
            case 2:
                return Integer.bitCount(libraries.imports(library));
            case 3:
                return libraries.needs(library);
            case 4:
                return libraries.opened(library);
            case 5:
                return libraries.base(library);
            case 6:
                return libraries.placeAmongGlobal(library);
            case 7:
                return libraries.placeAmongInitialised(library);
            default:
                throw new IllegalArgumentException("what is not 0 to 7");
        }
    }

    public int many(int what) throws IllegalArgumentException {
        switch (what) {
            case 0:
                return objects.count();
            case 1:
                return sections.count();
            case 2:
                return items.count();
            case 3:
                return libraries.count();
            case 4:
                return libraries.countLoaded();
            case 5:
                return libraries.countGlobal();
            case 6:
                return libraries.countBindings();
            case 7:
                return latest.taking.count();
            case 8:
                return latest.reaching.countSections();
            case 9:
                return latest.layout.size();
            case 10:
                return latest.faults.count();
            case 11:
                return latest.layout.countLongs();
            case 12:
                return Integer.bitCount(latest.reaching.imports());
            default:
                throw new IllegalArgumentException("what is not 0 to 12");
        }
    }

    public double usedPart() {
        int size = latest.layout.size();
        if (size <= 0) {
            return 0.0;
        }
        return (double) latest.layout.used() / (double) size;
    }

    // ---- what would be (nothing is changed)

    public int sizeWith(int reach) throws IllegalArgumentException, IllegalStateException {
        if (!isReach(reach)) {
            throw new IllegalArgumentException("reach is not 1 to 500");
        }
        if (!latest.isDone()) {
            throw new IllegalStateException("there was no link");
        }
        trial.run(latest.entry(), latest.isShared(), reach, limit, NONE);
        return trial.layout.size();
    }

    public int faultsWithout(int object) throws IndexOutOfBoundsException, IllegalStateException {
        if (!objects.has(object)) {
            throw new IndexOutOfBoundsException("no such OBJECT");
        }
        if (!latest.isDone()) {
            throw new IllegalStateException("there was no link");
        }
        trial.run(latest.entry(), latest.isShared(), reach, limit, object);
        return trial.faults.count();
    }

    public int goes(int library) throws IndexOutOfBoundsException {
        if (!libraries.has(library)) {
            throw new IndexOutOfBoundsException("no such LIBRARY");
        }
        return libraries.opened(library) == 0 ? 0 : libraries.leavingBy(library);
    }

    public int wouldBind(int library, int name) throws IndexOutOfBoundsException, IllegalArgumentException {
        if (!libraries.has(library)) {
            throw new IndexOutOfBoundsException("no such LIBRARY");
        }
        if (!isName(name)) {
            throw new IllegalArgumentException("no NAME");
        }
        if (!libraries.isLoaded(library) || !libraries.isImport(library, name)) {
            return NONE;
        }
        return libraries.firstExporter(library, name);
    }

    public long digest() {
        long d = DIGEST_START;
        for (int what = 0; what <= 12; what++) {
            d = mix(d, many(what));
        }
        d = mixObjects(d);
        d = mixSections(d);
        d = mixNames(d);
        d = mixFaults(d);
        for (int address = 0; address < latest.layout.size(); address++) {
            d = mix(d, wordAt(address));
        }
        for (int library = 0; library < libraries.count(); library++) {
            d = mixLibrary(d, library);
        }
        if (!latest.isDone()) {
            return d;
        }
        d = mix(d, sizeWith(DIGEST_REACH));
        for (int object = 0; object < objects.count(); object++) {
            d = mix(d, faultsWithout(object));
        }
        return d;
    }

    private long mixObjects(long start) {
        long d = start;
        for (int object = 0; object < objects.count(); object++) {
            for (int what = 0; what <= 3; what++) {
                d = mix(d, ofObject(object, what));
            }
        }
        return d;
    }

    private long mixSections(long start) {
        long d = start;
        for (int section = 0; section < sections.count(); section++) {
            for (int what = 0; what <= 6; what++) {
                d = mix(d, ofSection(section, what));
            }
        }
        return d;
    }

    private long mixNames(long start) {
        long d = start;
        for (int name = 0; name < NAMES; name++) {
            for (int what = 0; what <= 4; what++) {
                d = mix(d, ofName(name, what));
            }
        }
        return d;
    }

    private long mixFaults(long start) {
        long d = start;
        for (int k = 0; k < latest.faults.count(); k++) {
            for (int what = 0; what < FAULT_PARTS; what++) {
                d = mix(d, fault(k, what));
            }
        }
        return d;
    }

    private long mixLibrary(long start, int library) {
        long d = start;
        for (int what = 0; what <= 7; what++) {
            d = mix(d, ofLibrary(library, what));
        }
        d = mix(d, goes(library));
        for (int name = 0; name < NAMES; name++) {
            for (int what = 0; what <= 3; what++) {
                d = mix(d, ofBinding(library, name, what));
            }
            d = mix(d, wouldBind(library, name));
        }
        return d;
    }

    private static long mix(long d, long v) {
        return d * DIGEST_FACTOR + v;
    }

    private static boolean isIn(int number, int count) {
        return number >= 0 && number < count;
    }

    private static boolean isName(int name) {
        return name >= 0 && name < NAMES;
    }

    private static boolean isAlign(int align) {
        return align == 1 || align == 2 || align == 4 || align == 8 || align == 16;
    }

    private static boolean isReach(int reach) {
        return reach >= 1 && reach <= MAX_REACH;
    }

    private static boolean hasBit(int set, int bit) {
        return ((set >> bit) & 1) != 0;
    }

    // Masks do for division here, as all steps are powers of 2.
    private static int roundUp(int number, int step) {
        return (number + step - 1) & -step;
    }

    private int addReference(int section, int kind, int name, int added, boolean isWeak) {
        if (!isWeak) {
            objects.need(sections.objectOf(section), name);
        }
        return sections.addPiece(section, kind, name, added, isWeak);
    }

    /** The OBJECTS and what they define. A number that is not there reads as one that defines nothing. */
    private static final class ObjectTable {
        private final int[] defined = new int[MAX_OBJECTS];
        // An OBJECT of an ARCHIVE is TAKEN for these alone, never for what it defines as WEAK.
        private final int[] offered = new int[MAX_OBJECTS];
        private final int[] needed = new int[MAX_OBJECTS];
        private final int[] kindOf = new int[MAX_OBJECTS * NAMES];
        private final int[] sectionOf = new int[MAX_OBJECTS * NAMES];
        private final int[] placeOf = new int[MAX_OBJECTS * NAMES];
        private final int[] sizeOf = new int[MAX_OBJECTS * NAMES];
        private final int[] alignOf = new int[MAX_OBJECTS * NAMES];
        private final int[] hidden = new int[MAX_OBJECTS];
        private int count = 0;

        int count() {
            return count;
        }

        boolean isFull() {
            return count >= MAX_OBJECTS;
        }

        boolean has(int object) {
            return object >= 0 && object < count && object < MAX_OBJECTS;
        }

        boolean hasAll(int set) {
            return set >> count == 0;
        }

        int add() {
            int object = count;
            count++;
            return object;
        }

        int defined(int object) {
            return object >= 0 && object < MAX_OBJECTS ? defined[object] : 0;
        }

        int offered(int object) {
            return object >= 0 && object < MAX_OBJECTS ? offered[object] : 0;
        }

        int needed(int object) {
            return object >= 0 && object < MAX_OBJECTS ? needed[object] : 0;
        }

        void need(int object, int name) {
            if (has(object)) {
                needed[object] |= 1 << name;
            }
        }

        void addDefinition(int object, int name, int kind, int section, int place) {
            if (!has(object) || !isName(name)) {
                return;
            }
            int slot = object * NAMES + name;
            kindOf[slot] = kind;
            sectionOf[slot] = section;
            placeOf[slot] = place;
            defined[object] |= 1 << name;
            if (kind != WEAK) {
                offered[object] |= 1 << name;
            }
        }

        void hide(int object, int name) {
            if (has(object)) {
                hidden[object] |= 1 << name;
            }
        }

        void addCommon(int object, int name, int size, int align) {
            if (!has(object) || !isName(name)) {
                return;
            }
            addDefinition(object, name, COMMON, NONE, NONE);
            sizeOf[object * NAMES + name] = size;
            alignOf[object * NAMES + name] = align;
        }

        int kind(int object, int name) {
            if (!has(object) || !isName(name) || !hasBit(defined[object], name)) {
                return NONE;
            }
            return kindOf[object * NAMES + name];
        }

        int sectionOf(int object, int name) {
            return has(object) && isName(name) ? sectionOf[object * NAMES + name] : NONE;
        }

        int placeOf(int object, int name) {
            return has(object) && isName(name) ? placeOf[object * NAMES + name] : NONE;
        }

        int size(int object, int name) {
            return has(object) && isName(name) ? sizeOf[object * NAMES + name] : 0;
        }

        int align(int object, int name) {
            return has(object) && isName(name) ? alignOf[object * NAMES + name] : 1;
        }

        boolean isHidden(int object, int name) {
            return has(object) && hasBit(hidden[object], name);
        }
    }

    /** The SECTIONS and their PIECES. A number that is not there reads as an empty SECTION of no OBJECT. */
    private static final class SectionTable {
        private final int[] objectOf = new int[MAX_SECTIONS];
        private final int[] alignOf = new int[MAX_SECTIONS];
        private final boolean[] keptOf = new boolean[MAX_SECTIONS];
        private final int[] piecesOf = new int[MAX_SECTIONS];
        private final int[] kindOf = new int[ALL_PIECES];
        // How many words a FILL has, or the NAME of a REFERENCE.
        private final int[] valueOf = new int[ALL_PIECES];
        private final int[] addedOf = new int[ALL_PIECES];
        private final boolean[] weakOf = new boolean[ALL_PIECES];
        private int count = 0;

        int count() {
            return count;
        }

        boolean isFull() {
            return count >= MAX_SECTIONS;
        }

        boolean has(int section) {
            return section >= 0 && section < count && section < MAX_SECTIONS;
        }

        int add(int object, int align, boolean isKept) {
            if (isFull()) {
                return NONE;
            }
            objectOf[count] = object;
            alignOf[count] = align;
            keptOf[count] = isKept;
            count++;
            return count - 1;
        }

        boolean isFilled(int section) {
            return pieces(section) >= MAX_PIECES;
        }

        int addPiece(int section, int kind, int value, int added, boolean isWeak) {
            if (!has(section) || isFilled(section)) {
                return NONE;
            }
            int place = piecesOf[section];
            int slot = section * MAX_PIECES + place;
            kindOf[slot] = kind;
            valueOf[slot] = value;
            addedOf[slot] = added;
            weakOf[slot] = isWeak;
            piecesOf[section] = place + 1;
            return place;
        }

        int objectOf(int section) {
            return has(section) ? objectOf[section] : NONE;
        }

        int align(int section) {
            return has(section) ? alignOf[section] : 1;
        }

        boolean isKept(int section) {
            return has(section) && keptOf[section];
        }

        int pieces(int section) {
            return has(section) ? piecesOf[section] : 0;
        }

        int countOf(int object) {
            int many = 0;
            for (int section = 0; section < count && section < MAX_SECTIONS; section++) {
                if (objectOf[section] == object) {
                    many++;
                }
            }
            return many;
        }

        private boolean hasPiece(int section, int place) {
            return section >= 0 && section < MAX_SECTIONS && place >= 0 && place < MAX_PIECES
                    && place < piecesOf[section];
        }

        int kind(int section, int place) {
            return hasPiece(section, place) ? kindOf[section * MAX_PIECES + place] : FILL;
        }

        boolean isReference(int section, int place) {
            return kind(section, place) != FILL;
        }

        /** How many words the PIECE has, as long as no JUMP is LONG. */
        int words(int section, int place) {
            if (!hasPiece(section, place)) {
                return 0;
            }
            int slot = section * MAX_PIECES + place;
            if (kindOf[slot] == FILL) {
                return valueOf[slot];
            }
            return kindOf[slot] == WORD ? 1 : SHORT_WORDS;
        }

        int name(int section, int place) {
            return hasPiece(section, place) ? valueOf[section * MAX_PIECES + place] : NONE;
        }

        int added(int section, int place) {
            return hasPiece(section, place) ? addedOf[section * MAX_PIECES + place] : 0;
        }

        boolean isWeak(int section, int place) {
            return hasPiece(section, place) && weakOf[section * MAX_PIECES + place];
        }
    }

    /** The row of ITEMS, each a set of OBJECTS. */
    private static final class ItemRow {
        private final int[] sets = new int[MAX_ITEMS];
        private final int[] kinds = new int[MAX_ITEMS];
        private int count = 0;

        int count() {
            return count;
        }

        boolean isFull() {
            return count >= MAX_ITEMS;
        }

        int add(int set, int kind) {
            if (isFull()) {
                return NONE;
            }
            sets[count] = set;
            kinds[count] = kind;
            count++;
            return count - 1;
        }

        int removeAll() {
            int before = count;
            count = 0;
            return before;
        }

        boolean hasAny(int set) {
            for (int item = 0; item < count && item < MAX_ITEMS; item++) {
                if ((sets[item] & set) != 0) {
                    return true;
                }
            }
            return false;
        }

        int itemOf(int object) {
            for (int item = 0; item < count && item < MAX_ITEMS; item++) {
                if (hasBit(sets[item], object)) {
                    return item;
                }
            }
            return NONE;
        }

        int set(int item) {
            return item >= 0 && item < count && item < MAX_ITEMS ? sets[item] : 0;
        }

        boolean isPlain(int item) {
            return item >= 0 && item < count && item < MAX_ITEMS && kinds[item] == PLAIN;
        }

        /** Whether the ITEM is in a GROUP with the one ahead of it. */
        boolean joinsAhead(int item) {
            return item >= 1 && item < count && item < MAX_ITEMS && kinds[item] == GROUPED
                    && kinds[item - 1] != PLAIN;
        }

        /** The place behind the last ITEM of the GROUP that begins with this one. */
        int groupEnd(int first) {
            for (int item = first + 1; item < count; item++) {
                if (!joinsAhead(item)) {
                    return item;
                }
            }
            return count;
        }
    }

    /** Which OBJECTS a link has TAKEN, in their order. */
    private static final class Taking {
        private final ObjectTable objects;
        private final ItemRow items;
        private final int[] order = new int[MAX_OBJECTS];
        private int count = 0;
        private int taken = 0;
        private int needed = 0;
        private int defined = 0;

        Taking(ObjectTable objects, ItemRow items) {
            this.objects = objects;
            this.items = items;
        }

        int count() {
            return count;
        }

        int objectAt(int k) {
            return k >= 0 && k < count && k < MAX_OBJECTS ? order[k] : NONE;
        }

        int placeOf(int object) {
            for (int k = 0; k < count && k < MAX_OBJECTS; k++) {
                if (order[k] == object) {
                    return k;
                }
            }
            return NONE;
        }

        boolean isTaken(int object) {
            return isIn(object, MAX_OBJECTS) && hasBit(taken, object);
        }

        void take(int entry, int without) {
            count = 0;
            taken = 0;
            needed = 1 << entry;
            defined = 0;
            int allowed = without == NONE ? -1 : ~(1 << without);
            for (int item = 0; item < items.count(); item++) {
                if (items.isPlain(item)) {
                    takeAll(items.set(item) & allowed);
                } else if (!items.joinsAhead(item)) {
                    takeGroup(item, allowed);
                }
            }
        }

        private void takeAll(int set) {
            for (int object = 0; object < MAX_OBJECTS; object++) {
                if (hasBit(set, object)) {
                    add(object);
                }
            }
        }

        private void takeGroup(int first, int allowed) {
            int end = items.groupEnd(first);
            for (int round = 0; round <= MAX_OBJECTS; round++) {
                int before = count;
                for (int item = first; item < end; item++) {
                    takeWanted(items.set(item) & allowed);
                }
                if (count == before) {
                    break;
                }
            }
        }

        private void takeWanted(int set) {
            for (int object = 0; object < MAX_OBJECTS; object++) {
                if (hasBit(set & ~taken, object) && (objects.offered(object) & needed & ~defined) != 0) {
                    add(object);
                }
            }
        }

        private void add(int object) {
            if (count >= MAX_OBJECTS) {
                return;
            }
            order[count] = object;
            count++;
            taken |= 1 << object;
            needed |= objects.needed(object);
            defined |= objects.defined(object);
        }
    }

    /** The DEFINITION of each NAME among the OBJECTS that are TAKEN. */
    private static final class Settling {
        private final ObjectTable objects;
        private final Taking taking;
        private final int[] kindOf = new int[NAMES];
        private final int[] objectOf = new int[NAMES];
        private final int[] sectionOf = new int[NAMES];
        private final int[] placeOf = new int[NAMES];
        private final int[] sizeOf = new int[NAMES];
        private final int[] alignOf = new int[NAMES];
        private int hidden = 0;
        private int twiceStrong = 0;

        Settling(ObjectTable objects, Taking taking) {
            this.objects = objects;
            this.taking = taking;
            forget();
        }

        private void forget() {
            hidden = 0;
            twiceStrong = 0;
            for (int name = 0; name < NAMES; name++) {
                kindOf[name] = NONE;
                objectOf[name] = NONE;
                sectionOf[name] = NONE;
                placeOf[name] = NONE;
            }
        }

        void settle() {
            forget();
            for (int name = 0; name < NAMES; name++) {
                for (int k = 0; k < taking.count(); k++) {
                    weigh(name, taking.objectAt(k));
                }
            }
        }

        private void weigh(int name, int object) {
            int kind = objects.kind(object, name);
            if (kind == NONE || !isName(name)) {
                return;
            }
            if (kind == STRONG && kindOf[name] == STRONG) {
                twiceStrong |= 1 << name;
            } else if (kind == COMMON && kindOf[name] == COMMON) {
                sizeOf[name] = Math.max(sizeOf[name], objects.size(object, name));
                alignOf[name] = Math.max(alignOf[name], objects.align(object, name));
            } else if (kindOf[name] == NONE || kind < kindOf[name]) {
                adopt(name, object, kind);
            }
        }

        private void adopt(int name, int object, int kind) {
            if (!isName(name)) {
                return;
            }
            kindOf[name] = kind;
            objectOf[name] = kind == COMMON ? NONE : object;
            sectionOf[name] = objects.sectionOf(object, name);
            placeOf[name] = objects.placeOf(object, name);
            sizeOf[name] = objects.size(object, name);
            alignOf[name] = objects.align(object, name);
            if (objects.isHidden(object, name)) {
                hidden |= 1 << name;
            } else {
                hidden &= ~(1 << name);
            }
        }

        int kind(int name) {
            return isName(name) ? kindOf[name] : NONE;
        }

        int objectOf(int name) {
            return isName(name) ? objectOf[name] : NONE;
        }

        int sectionOf(int name) {
            return isName(name) ? sectionOf[name] : NONE;
        }

        int placeOf(int name) {
            return isName(name) ? placeOf[name] : NONE;
        }

        boolean isHidden(int name) {
            return isName(name) && hasBit(hidden, name);
        }

        int size(int name) {
            return isName(name) ? sizeOf[name] : 0;
        }

        int align(int name) {
            return isName(name) ? alignOf[name] : 1;
        }

        boolean isTwiceStrong(int name) {
            return isName(name) && hasBit(twiceStrong, name);
        }
    }

    /** What is REACHED, and which NAMES are IMPORTS. */
    private static final class Reaching {
        private final SectionTable sections;
        private final Taking taking;
        private final Settling settling;
        // The SECTIONS that are REACHED, in the order in which this was found.
        private final int[] found = new int[MAX_SECTIONS];
        private int foundCount = 0;
        private int sectionSet = 0;
        private int commonSet = 0;
        private int imports = 0;
        private final int[] references = new int[NAMES];

        Reaching(SectionTable sections, Taking taking, Settling settling) {
            this.sections = sections;
            this.taking = taking;
            this.settling = settling;
        }

        boolean hasSection(int section) {
            return isIn(section, MAX_SECTIONS) && hasBit(sectionSet, section);
        }

        boolean hasCommon(int name) {
            return isName(name) && hasBit(commonSet, name);
        }

        int countSections() {
            return foundCount;
        }

        int imports() {
            return imports;
        }

        boolean isImport(int name) {
            return isName(name) && hasBit(imports, name);
        }

        int references(int name) {
            return isName(name) ? references[name] : 0;
        }

        void reachAll(int entry, boolean isShared) {
            forget();
            for (int section = 0; section < sections.count(); section++) {
                if (sections.isKept(section) && taking.isTaken(sections.objectOf(section))) {
                    reachSection(section);
                }
            }
            reachName(entry);
            for (int name = 0; isShared && name < NAMES; name++) {
                if (!settling.isHidden(name)) {
                    reachName(name);
                }
            }
            for (int k = 0; k < foundCount && k < MAX_SECTIONS; k++) {
                follow(found[k], isShared);
            }
        }

        private void forget() {
            foundCount = 0;
            sectionSet = 0;
            commonSet = 0;
            imports = 0;
            for (int name = 0; name < NAMES; name++) {
                references[name] = 0;
            }
        }

        private void follow(int section, boolean isShared) {
            for (int place = 0; place < sections.pieces(section); place++) {
                int name = sections.name(section, place);
                if (!sections.isReference(section, place) || !isName(name)) {
                    continue;
                }
                references[name]++;
                reachName(name);
                if (isShared && settling.kind(name) == NONE) {
                    imports |= 1 << name;
                }
            }
        }

        private void reachName(int name) {
            int kind = settling.kind(name);
            if (kind == COMMON) {
                commonSet |= 1 << name;
            } else if (kind != NONE) {
                reachSection(settling.sectionOf(name));
            }
        }

        private void reachSection(int section) {
            if (!isIn(section, MAX_SECTIONS) || hasBit(sectionSet, section) || foundCount >= MAX_SECTIONS) {
                return;
            }
            sectionSet |= 1 << section;
            found[foundCount] = section;
            foundCount++;
        }
    }

    /** Where all stands that is REACHED, and which JUMPS are LONG. */
    private static final class Layout {
        private final SectionTable sections;
        private final Taking taking;
        private final Settling settling;
        private final Reaching reaching;
        private final int[] order = new int[MAX_SECTIONS];
        private int laid = 0;
        private final int[] addressOf = new int[MAX_SECTIONS];
        private final int[] wordsOf = new int[MAX_SECTIONS];
        private final int[] longsOf = new int[MAX_SECTIONS];
        // How many words each PIECE has; that of a JUMP grows.
        private final int[] width = new int[ALL_PIECES];
        private final int[] addressOfName = new int[NAMES];
        private int size = 0;
        private int used = 0;

        Layout(SectionTable sections, Taking taking, Settling settling, Reaching reaching) {
            this.sections = sections;
            this.taking = taking;
            this.settling = settling;
            this.reaching = reaching;
            for (int name = 0; name < NAMES; name++) {
                addressOfName[name] = NONE;
            }
        }

        int size() {
            return size;
        }

        int used() {
            return used;
        }

        int laid() {
            return laid;
        }

        int sectionAt(int k) {
            return k >= 0 && k < laid && k < MAX_SECTIONS ? order[k] : NONE;
        }

        int addressOf(int section) {
            return reaching.hasSection(section) && isIn(section, MAX_SECTIONS) ? addressOf[section] : NONE;
        }

        int wordsOf(int section) {
            return reaching.hasSection(section) && isIn(section, MAX_SECTIONS) ? wordsOf[section] : 0;
        }

        int longsOf(int section) {
            return reaching.hasSection(section) && isIn(section, MAX_SECTIONS) ? longsOf[section] : 0;
        }

        int countLongs() {
            int many = 0;
            for (int section = 0; section < MAX_SECTIONS; section++) {
                many += longsOf(section);
            }
            return many;
        }

        int addressOfName(int name) {
            return isName(name) ? addressOfName[name] : NONE;
        }

        /** The address for which a REFERENCE to the NAME stands. */
        int standsFor(int name) {
            return isName(name) && addressOfName[name] != NONE ? addressOfName[name] : 0;
        }

        int width(int section, int place) {
            return isIn(section, MAX_SECTIONS) && isIn(place, MAX_PIECES) ? width[section * MAX_PIECES + place] : 0;
        }

        void layOut(int reach) {
            orderSections();
            // Each round but the last makes a JUMP LONG, and there are no more of these than PIECES.
            for (int round = 0; round <= ALL_PIECES; round++) {
                placeSections();
                placeCommons();
                addressNames();
                if (!lengthenAll(reach)) {
                    break;
                }
            }
        }

        private void orderSections() {
            laid = 0;
            for (int k = 0; k < taking.count(); k++) {
                int object = taking.objectAt(k);
                for (int section = 0; section < sections.count(); section++) {
                    if (reaching.hasSection(section) && sections.objectOf(section) == object) {
                        append(section);
                    }
                }
            }
        }

        private void append(int section) {
            if (laid >= MAX_SECTIONS || !isIn(section, MAX_SECTIONS)) {
                return;
            }
            order[laid] = section;
            laid++;
            longsOf[section] = 0;
            for (int place = 0; place < MAX_PIECES; place++) {
                width[section * MAX_PIECES + place] = sections.words(section, place);
            }
        }

        private void placeSections() {
            size = FIRST_ADDRESS;
            used = 0;
            for (int k = 0; k < laid && k < MAX_SECTIONS; k++) {
                int section = order[k];
                if (isIn(section, MAX_SECTIONS)) {
                    addressOf[section] = roundUp(size, sections.align(section));
                    wordsOf[section] = wordsAhead(section, MAX_PIECES);
                    used += wordsOf[section];
                    size = addressOf[section] + wordsOf[section];
                }
            }
        }

        private void placeCommons() {
            for (int name = 0; name < NAMES; name++) {
                if (reaching.hasCommon(name)) {
                    addressOfName[name] = roundUp(size, settling.align(name));
                    used += settling.size(name);
                    size = addressOfName[name] + settling.size(name);
                } else {
                    addressOfName[name] = NONE;
                }
            }
        }

        private void addressNames() {
            for (int name = 0; name < NAMES; name++) {
                int section = settling.sectionOf(name);
                if (reaching.hasSection(section) && isIn(section, MAX_SECTIONS)) {
                    addressOfName[name] = addressOf[section] + wordsAhead(section, settling.placeOf(name));
                }
            }
        }

        private int wordsAhead(int section, int end) {
            int words = 0;
            for (int place = 0; place < end && place < MAX_PIECES; place++) {
                words += width(section, place);
            }
            return words;
        }

        private boolean lengthenAll(int reach) {
            boolean isAny = false;
            for (int k = 0; k < laid && k < MAX_SECTIONS; k++) {
                if (lengthenIn(order[k], reach)) {
                    isAny = true;
                }
            }
            return isAny;
        }

        // All SHORT ones are judged by the layout before this round, so that their order does not matter.
        private boolean lengthenIn(int section, int reach) {
            if (!isIn(section, MAX_SECTIONS)) {
                return false;
            }
            boolean isAny = false;
            int behind = addressOf[section];
            for (int place = 0; place < MAX_PIECES; place++) {
                int slot = section * MAX_PIECES + place;
                behind += width[slot];
                boolean isShort = sections.kind(section, place) == JUMP && width[slot] == SHORT_WORDS;
                if (isShort && Math.abs(behind - standsFor(sections.name(section, place))) > reach) {
                    width[slot] = LONG_WORDS;
                    longsOf[section]++;
                    isAny = true;
                }
            }
            return isAny;
        }
    }

    /** The FAULTS of a link, in the order in which they are told. */
    private static final class FaultList {
        private final int[] parts = new int[MAX_FAULTS * FAULT_PARTS];
        private int count = 0;

        int count() {
            return count;
        }

        void forget() {
            count = 0;
        }

        void add(int which, int name, int section, int place) {
            if (count >= MAX_FAULTS) {
                return;
            }
            int start = count * FAULT_PARTS;
            parts[start] = which;
            parts[start + 1] = name;
            parts[start + 2] = section;
            parts[start + 3] = place;
            count++;
        }

        int part(int k, int what) {
            return isIn(k, MAX_FAULTS) && isIn(what, FAULT_PARTS) ? parts[k * FAULT_PARTS + what] : NONE;
        }
    }

    /** One link with all that it has found. Its rows are used again by the next run. */
    private static final class Link {
        private final SectionTable sections;
        private final Taking taking;
        private final Settling settling;
        private final Reaching reaching;
        private final Layout layout;
        private final FaultList faults = new FaultList();
        private boolean isDone = false;
        private boolean isShared = false;
        private int entry = 0;

        Link(ObjectTable objects, SectionTable sections, ItemRow items) {
            this.sections = sections;
            taking = new Taking(objects, items);
            settling = new Settling(objects, taking);
            reaching = new Reaching(sections, taking, settling);
            layout = new Layout(sections, taking, settling, reaching);
        }

        boolean isDone() {
            return isDone;
        }

        boolean isShared() {
            return isShared;
        }

        int entry() {
            return entry;
        }

        /** Links as if the OBJECT without (NONE: none of them) was in no ITEM. */
        void run(int entry, boolean isShared, int reach, int limit, int without) {
            this.entry = entry;
            this.isShared = isShared;
            isDone = true;
            taking.take(entry, without);
            settling.settle();
            reaching.reachAll(entry, isShared);
            layout.layOut(reach);
            tellFaults(limit);
        }

        private void tellFaults(int limit) {
            faults.forget();
            for (int name = 0; name < NAMES; name++) {
                if (settling.isTwiceStrong(name)) {
                    faults.add(FAULT_TWICE_STRONG, name, NONE, NONE);
                }
            }
            if (settling.kind(entry) == NONE) {
                faults.add(FAULT_NO_ENTRY, entry, NONE, NONE);
            }
            for (int k = 0; k < layout.laid(); k++) {
                int section = layout.sectionAt(k);
                for (int place = 0; place < sections.pieces(section); place++) {
                    if (sections.isReference(section, place)) {
                        tellFaultsOf(section, place, limit);
                    }
                }
            }
        }

        private void tellFaultsOf(int section, int place, int limit) {
            int name = sections.name(section, place);
            if (reaching.isImport(name)) {
                return;
            }
            if (settling.kind(name) == NONE && !sections.isWeak(section, place)) {
                faults.add(FAULT_NO_DEFINITION, name, section, place);
            }
            if (sections.kind(section, place) == WORD) {
                int value = layout.standsFor(name) + sections.added(section, place);
                if (value < 0 || value > limit) {
                    faults.add(FAULT_OUT_OF_LIMIT, name, section, place);
                }
            }
        }

        void writeTo(Image image) {
            image.clearUpTo(layout.size());
            for (int k = 0; k < layout.laid(); k++) {
                int section = layout.sectionAt(k);
                int address = layout.addressOf(section);
                for (int place = 0; place < sections.pieces(section); place++) {
                    writePiece(image, address, section, place);
                    address += layout.width(section, place);
                }
            }
        }

        private void writePiece(Image image, int address, int section, int place) {
            if (!sections.isReference(section, place)) {
                return;
            }
            int target = layout.standsFor(sections.name(section, place));
            if (sections.kind(section, place) == WORD) {
                image.put(address, target + sections.added(section, place));
            } else if (layout.width(section, place) == SHORT_WORDS) {
                image.put(address, -1);
                image.put(address + 1, target - address - SHORT_WORDS);
            } else {
                image.put(address, -2);
                image.put(address + 1, target);
            }
        }
    }

    /** The words of the latest link. */
    private static final class Image {
        private int[] words = new int[BASE_STEP];

        // A row that is too short is at least doubled: so few are made, also by many links.
        void clearUpTo(int size) {
            if (size > words.length) {
                words = new int[Math.max(size, 2 * words.length)];
                return;
            }
            for (int address = 0; address < size; address++) {
                words[address] = 0;
            }
        }

        void put(int address, int word) {
            if (address >= 0 && address < words.length) {
                words[address] = word;
            }
        }

        int read(int address) {
            return address >= 0 && address < words.length ? words[address] : 0;
        }
    }

    /** The LIBRARIES: what was published, what is LOADED, and who is BOUND to whom. */
    private static final class LibraryTable {
        private final int[] sizeOf = new int[MAX_LIBRARIES];
        private final int[] needsOf = new int[MAX_LIBRARIES];
        private final int[] exportsOf = new int[MAX_LIBRARIES];
        private final int[] importsOf = new int[MAX_LIBRARIES];
        private final int[] addressOf = new int[MAX_LIBRARIES * NAMES];
        private final int[] openedOf = new int[MAX_LIBRARIES];
        // NONE as long as it is not LOADED.
        private final int[] baseOf = new int[MAX_LIBRARIES];
        private final int[] boundTo = new int[MAX_LIBRARIES * NAMES];
        private final int[] global = new int[MAX_LIBRARIES];
        private final int[] initialised = new int[MAX_LIBRARIES];
        // Used again for each ROW, and for each way that initialising goes.
        private final int[] row = new int[MAX_LIBRARIES];
        private final int[] way = new int[MAX_LIBRARIES];
        private int rowSet = 0;
        private int count = 0;
        private int globalCount = 0;
        private int initialisedCount = 0;

        LibraryTable() {
            for (int library = 0; library < MAX_LIBRARIES; library++) {
                baseOf[library] = NONE;
            }
            for (int slot = 0; slot < MAX_LIBRARIES * NAMES; slot++) {
                boundTo[slot] = NONE;
            }
        }

        int count() {
            return count;
        }

        boolean isFull() {
            return count >= MAX_LIBRARIES;
        }

        boolean has(int library) {
            return library >= 0 && library < count && library < MAX_LIBRARIES;
        }

        int size(int library) {
            return has(library) ? sizeOf[library] : 0;
        }

        int needs(int library) {
            return has(library) ? needsOf[library] : 0;
        }

        int exports(int library) {
            return has(library) ? exportsOf[library] : 0;
        }

        int imports(int library) {
            return has(library) ? importsOf[library] : 0;
        }

        int opened(int library) {
            return has(library) ? openedOf[library] : 0;
        }

        int base(int library) {
            return has(library) ? baseOf[library] : NONE;
        }

        boolean isLoaded(int library) {
            return base(library) != NONE;
        }

        boolean isExport(int library, int name) {
            return isName(name) && hasBit(exports(library), name);
        }

        boolean isImport(int library, int name) {
            return isName(name) && hasBit(imports(library), name);
        }

        int exportAddress(int library, int name) {
            return isExport(library, name) && has(library) ? addressOf[library * NAMES + name] : NONE;
        }

        int boundTo(int library, int name) {
            return has(library) && isName(name) ? boundTo[library * NAMES + name] : NONE;
        }

        int boundAddress(int library, int name) {
            int target = boundTo(library, name);
            return target == NONE ? NONE : base(target) + exportAddress(target, name);
        }

        int placeAmongGlobal(int library) {
            return placeIn(global, globalCount, library);
        }

        int placeAmongInitialised(int library) {
            return placeIn(initialised, initialisedCount, library);
        }

        private static int placeIn(int[] list, int length, int library) {
            for (int k = 0; k < length && k < list.length; k++) {
                if (list[k] == library) {
                    return k;
                }
            }
            return NONE;
        }

        int countLoaded() {
            return Integer.bitCount(loaded());
        }

        int countGlobal() {
            return globalCount;
        }

        int countBindings() {
            int many = 0;
            for (int slot = 0; slot < MAX_LIBRARIES * NAMES; slot++) {
                if (boundTo[slot] != NONE) {
                    many++;
                }
            }
            return many;
        }

        int add(Link link, int needs) {
            if (isFull()) {
                return NONE;
            }
            int library = count;
            count++;
            sizeOf[library] = link.layout.size();
            needsOf[library] = needs;
            importsOf[library] = link.reaching.imports();
            exportsOf[library] = 0;
            for (int name = 0; name < NAMES; name++) {
                int address = link.layout.addressOfName(name);
                if (address != NONE && !link.settling.isHidden(name)) {
                    exportsOf[library] |= 1 << name;
                    addressOf[library * NAMES + name] = address;
                }
            }
            return library;
        }

        // What is not there yet does not count so far.
        private int neededNow(int library) {
            return has(library) ? needsOf[library] & ((1 << count) - 1) : 0;
        }

        private int loaded() {
            int set = 0;
            for (int library = 0; library < MAX_LIBRARIES; library++) {
                if (isLoaded(library)) {
                    set |= 1 << library;
                }
            }
            return set;
        }

        /** Writes the ROW of the LIBRARY, also as a set, and tells how many are in it. */
        private int fillRow(int library) {
            row[0] = library;
            rowSet = 1 << library;
            int length = 1;
            for (int k = 0; k < length && k < MAX_LIBRARIES; k++) {
                int needed = neededNow(row[k]);
                for (int next = 0; next < MAX_LIBRARIES; next++) {
                    if (hasBit(needed & ~rowSet, next) && length < MAX_LIBRARIES) {
                        row[length] = next;
                        length++;
                        rowSet |= 1 << next;
                    }
                }
            }
            return length;
        }

        int openOne(int library, boolean isGlobal) {
            if (!has(library)) {
                return 0;
            }
            openedOf[library]++;
            int length = fillRow(library);
            int fresh = 0;
            for (int k = 0; k < length && k < MAX_LIBRARIES; k++) {
                if (!isLoaded(row[k])) {
                    load(row[k]);
                    fresh |= 1 << row[k];
                }
            }
            for (int k = 0; isGlobal && k < length && k < MAX_LIBRARIES; k++) {
                makeGlobal(row[k]);
            }
            initialise(library, fresh);
            return Integer.bitCount(fresh);
        }

        private void load(int library) {
            int base = BASE_STEP;
            for (int other = 0; other < MAX_LIBRARIES; other++) {
                if (isLoaded(other)) {
                    base = Math.max(base, baseOf[other] + sizeOf[other]);
                }
            }
            if (has(library)) {
                baseOf[library] = roundUp(base, BASE_STEP);
            }
        }

        private void makeGlobal(int library) {
            if (placeAmongGlobal(library) == NONE && globalCount < MAX_LIBRARIES) {
                global[globalCount] = library;
                globalCount++;
            }
        }

        private void initialise(int library, int fresh) {
            way[0] = library;
            int length = 1;
            int seen = 1 << library;
            // Each LIBRARY is gone to once and left once.
            for (int step = 0; step < 2 * MAX_LIBRARIES && length > 0 && length <= MAX_LIBRARIES; step++) {
                int here = way[length - 1];
                int next = lowestOf(neededNow(here) & ~seen);
                if (next != NONE && length < MAX_LIBRARIES) {
                    way[length] = next;
                    length++;
                    seen |= 1 << next;
                } else {
                    length--;
                    if (hasBit(fresh, here) && initialisedCount < MAX_LIBRARIES) {
                        initialised[initialisedCount] = here;
                        initialisedCount++;
                    }
                }
            }
        }

        private static int lowestOf(int set) {
            for (int library = 0; library < MAX_LIBRARIES; library++) {
                if (hasBit(set, library)) {
                    return library;
                }
            }
            return NONE;
        }

        int closeOne(int library) {
            if (!has(library)) {
                return 0;
            }
            int leaving = leavingBy(library);
            openedOf[library]--;
            finish(leaving);
            return Integer.bitCount(leaving);
        }

        /** The set of those that are FINISHED as this LIBRARY is CLOSED. */
        int leavingBy(int library) {
            int staying = 0;
            for (int other = 0; other < MAX_LIBRARIES; other++) {
                int left = opened(other) - (other == library ? 1 : 0);
                if (left > 0) {
                    fillRow(other);
                    staying |= rowSet;
                }
            }
            return loaded() & ~staying;
        }

        private void finish(int leaving) {
            globalCount = without(global, globalCount, leaving);
            initialisedCount = without(initialised, initialisedCount, leaving);
            for (int library = 0; library < MAX_LIBRARIES; library++) {
                if (hasBit(leaving, library)) {
                    baseOf[library] = NONE;
                }
                for (int name = 0; name < NAMES; name++) {
                    int target = boundTo[library * NAMES + name];
                    if (target != NONE && (hasBit(leaving, library) || hasBit(leaving, target))) {
                        boundTo[library * NAMES + name] = NONE;
                    }
                }
            }
        }

        /** Closes the gaps that those that are leaving make in the list, and tells how many stay. */
        private static int without(int[] list, int length, int leaving) {
            int staying = 0;
            for (int k = 0; k < length && k < list.length; k++) {
                if (!hasBit(leaving, list[k]) && staying < list.length) {
                    list[staying] = list[k];
                    staying++;
                }
            }
            return staying;
        }

        int bind(int library, int name) {
            if (!has(library) || !isName(name)) {
                return NONE;
            }
            int slot = library * NAMES + name;
            if (boundTo[slot] == NONE) {
                boundTo[slot] = firstExporter(library, name);
            }
            return boundTo[slot];
        }

        /** To which LIBRARY the NAME would be BOUND, if it is not. */
        int firstExporter(int library, int name) {
            for (int k = 0; k < globalCount && k < MAX_LIBRARIES; k++) {
                if (isExport(global[k], name)) {
                    return global[k];
                }
            }
            int length = fillRow(library);
            for (int k = 0; k < length && k < MAX_LIBRARIES; k++) {
                if (isLoaded(row[k]) && isExport(row[k], name)) {
                    return row[k];
                }
            }
            return NONE;
        }
    }
}
