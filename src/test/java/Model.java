import java.util.ArrayList;
import java.util.LinkedHashSet;
import java.util.List;
import java.util.Map;
import java.util.Set;
import java.util.TreeMap;
import java.util.TreeSet;

/**
 * The document once more, in the most literal way and with Java's collections: everything is found anew from its
 * definition, nothing is kept that can be found. ModelTest compares the program with it.
 */
final class Model {
    enum Kind { STRONG, COMMON, WEAK }

    record Piece(boolean isFill, boolean isJump, int words, int name, int added, boolean isWeak) {
        boolean isReference() {
            return !isFill;
        }
    }

    record Definition(Kind kind, int object, int section, int place, boolean isHidden, int size, int align) { }

    record Item(Set<Integer> objects, int kind) { }

    record Jump(int section, int place) { }

    static final class Section {
        final int object;
        final int align;
        final boolean isKept;
        final List<Piece> pieces = new ArrayList<>();

        Section(int object, int align, boolean isKept) {
            this.object = object;
            this.align = align;
            this.isKept = isKept;
        }
    }

    /** What a link found; nothing of it changes later. */
    static final class Found {
        int entry;
        boolean isShared;
        final List<Integer> taken = new ArrayList<>();
        final Map<Integer, Definition> definitions = new TreeMap<>();
        final Set<Integer> twice = new TreeSet<>();
        final Set<Integer> sections = new TreeSet<>();
        final Set<Integer> commons = new TreeSet<>();
        final Set<Integer> imports = new TreeSet<>();
        final List<Integer> order = new ArrayList<>();
        final Set<Jump> longs = new LinkedHashSet<>();
        final Map<Integer, Integer> addresses = new TreeMap<>();
        final Map<Integer, Integer> lengths = new TreeMap<>();
        final Map<Integer, Integer> nameAddresses = new TreeMap<>();
        final Map<Integer, Integer> references = new TreeMap<>();
        final List<int[]> faults = new ArrayList<>();
        int size;
        int used;
        int[] image;
    }

    static final class Library {
        int size;
        int needs;
        final Map<Integer, Integer> exports = new TreeMap<>();
        final Set<Integer> imports = new TreeSet<>();
        int count;
        int base = -1;
        final Map<Integer, Integer> bound = new TreeMap<>();
    }

    private final List<Map<Integer, Definition>> objects = new ArrayList<>();
    private final List<Section> sections = new ArrayList<>();
    private final List<Item> items = new ArrayList<>();
    private final List<Library> libraries = new ArrayList<>();
    private final List<Integer> globals = new ArrayList<>();
    private final List<Integer> initialised = new ArrayList<>();
    private Found latest = null;
    private int reach = 40;
    private int limit = 9999;

    private static void range(boolean isFine) {
        if (!isFine) {
            throw new IndexOutOfBoundsException("model");
        }
    }

    private static void argument(boolean isFine) {
        if (!isFine) {
            throw new IllegalArgumentException("model");
        }
    }

    private static void state(boolean isFine) {
        if (!isFine) {
            throw new IllegalStateException("model");
        }
    }

    private static boolean between(int low, int number, int high) {
        return low <= number && number <= high;
    }

    private static boolean isAlign(int align) {
        return List.of(1, 2, 4, 8, 16).contains(align);
    }

    private boolean hasObject(int object) {
        return between(0, object, objects.size() - 1);
    }

    private boolean hasSection(int section) {
        return between(0, section, sections.size() - 1);
    }

    private boolean hasLibrary(int library) {
        return between(0, library, libraries.size() - 1);
    }

    private static Set<Integer> members(int set) {
        Set<Integer> members = new TreeSet<>();
        for (int k = 0; k < 31; k++) {
            if ((set / (1 << k)) % 2 == 1) {
                members.add(k);
            }
        }
        return members;
    }

    int object() {
        state(objects.size() < 10);
        objects.add(new TreeMap<>());
        return objects.size() - 1;
    }

    int section(int object, int align, boolean isKept) {
        range(hasObject(object));
        argument(isAlign(align));
        state(sections.size() < 24);
        sections.add(new Section(object, align, isKept));
        return sections.size() - 1;
    }

    private int addPiece(int section, Piece piece) {
        List<Piece> pieces = sections.get(section).pieces;
        state(pieces.size() < 8);
        pieces.add(piece);
        return pieces.size() - 1;
    }

    int fill(int section, int words) {
        range(hasSection(section));
        argument(between(1, words, 40));
        return addPiece(section, new Piece(true, false, words, -1, 0, false));
    }

    int word(int section, int name, int added, boolean isWeak) {
        range(hasSection(section));
        argument(between(0, name, 19) && between(-50, added, 50));
        return addPiece(section, new Piece(false, false, 1, name, added, isWeak));
    }

    int jump(int section, int name, boolean isWeak) {
        range(hasSection(section));
        argument(between(0, name, 19));
        return addPiece(section, new Piece(false, true, 2, name, 0, isWeak));
    }

    int define(int section, int name, boolean isWeak, boolean isHidden) {
        range(hasSection(section));
        argument(between(0, name, 19));
        Section home = sections.get(section);
        state(!objects.get(home.object).containsKey(name));
        objects.get(home.object).put(name, new Definition(isWeak ? Kind.WEAK : Kind.STRONG, home.object, section,
                home.pieces.size(), isHidden, 0, 0));
        return home.pieces.size();
    }

    int common(int object, int name, int size, int align) {
        range(hasObject(object));
        argument(between(0, name, 19) && between(1, size, 40) && isAlign(align));
        state(!objects.get(object).containsKey(name));
        objects.get(object).put(name, new Definition(Kind.COMMON, -1, -1, -1, false, size, align));
        return objects.get(object).size();
    }

    int item(int set, int kind) {
        argument(set >= 1 && between(0, kind, 2));
        Set<Integer> members = members(set);
        for (int object : members) {
            argument(hasObject(object));
        }
        state(items.size() < 8);
        for (int object : members) {
            state(itemOf(object) == -1);
        }
        items.add(new Item(members, kind));
        return items.size() - 1;
    }

    private int itemOf(int object) {
        for (int k = 0; k < items.size(); k++) {
            if (items.get(k).objects.contains(object)) {
                return k;
            }
        }
        return -1;
    }

    int clear() {
        int before = items.size();
        items.clear();
        return before;
    }

    int ofObject(int object, int what) {
        range(hasObject(object));
        argument(between(0, what, 3));
        return switch (what) {
            case 0 -> (int) sections.stream().filter(s -> s.object == object).count();
            case 1 -> objects.get(object).size();
            case 2 -> itemOf(object);
            default -> latest == null ? -1 : latest.taken.indexOf(object);
        };
    }

    int bounds(int newReach, int newLimit) {
        argument(between(1, newReach, 500) && between(0, newLimit, 9999));
        int before = reach;
        reach = newReach;
        limit = newLimit;
        return before;
    }

    int link(int entry, boolean isShared) {
        argument(between(0, entry, 19));
        latest = find(entry, isShared, reach, limit, -1);
        return latest.faults.size();
    }

    private Found find(int entry, boolean isShared, int byReach, int byLimit, int without) {
        Found f = new Found();
        f.entry = entry;
        f.isShared = isShared;
        takeAll(f, without);
        for (int name = 0; name < 20; name++) {
            settle(f, name);
        }
        reachAll(f);
        countReferences(f);
        layOut(f);
        for (Set<Jump> more = tooFar(f, byReach); !more.isEmpty(); more = tooFar(f, byReach)) {
            f.longs.addAll(more);
            layOut(f);
        }
        writeImage(f);
        tellFaults(f, byLimit);
        return f;
    }

    private void takeAll(Found f, int without) {
        List<List<Item>> groups = new ArrayList<>();
        int ahead = 0;
        for (Item item : items) {
            Set<Integer> left = new TreeSet<>(item.objects);
            left.remove(without);
            Item now = new Item(left, item.kind);
            if (item.kind == 2 && ahead != 0) {
                groups.get(groups.size() - 1).add(now);
            } else {
                groups.add(new ArrayList<>(List.of(now)));
            }
            ahead = item.kind;
        }
        for (List<Item> group : groups) {
            if (group.get(0).kind == 0) {
                f.taken.addAll(group.get(0).objects);
            } else {
                int before;
                do {
                    before = f.taken.size();
                    for (Item item : group) {
                        for (int object : item.objects) {
                            if (!f.taken.contains(object) && isDrawn(f, object)) {
                                f.taken.add(object);
                            }
                        }
                    }
                } while (f.taken.size() > before);
            }
        }
    }

    private boolean isDrawn(Found f, int object) {
        for (Map.Entry<Integer, Definition> e : objects.get(object).entrySet()) {
            if (e.getValue().kind != Kind.WEAK && isWanted(f, e.getKey())) {
                return true;
            }
        }
        return false;
    }

    private boolean isWanted(Found f, int name) {
        boolean isAsked = name == f.entry;
        for (int object : f.taken) {
            if (objects.get(object).containsKey(name)) {
                return false;
            }
            for (Section s : sections) {
                for (Piece p : s.pieces) {
                    isAsked |= s.object == object && p.isReference() && !p.isWeak && p.name == name;
                }
            }
        }
        return isAsked;
    }

    private void settle(Found f, int name) {
        List<Definition> strong = new ArrayList<>();
        List<Definition> common = new ArrayList<>();
        List<Definition> weak = new ArrayList<>();
        for (int object : f.taken) {
            Definition d = objects.get(object).get(name);
            if (d != null) {
                (d.kind == Kind.STRONG ? strong : d.kind == Kind.COMMON ? common : weak).add(d);
            }
        }
        if (!strong.isEmpty()) {
            f.definitions.put(name, strong.get(0));
            if (strong.size() > 1) {
                f.twice.add(name);
            }
        } else if (!common.isEmpty()) {
            int size = common.stream().mapToInt(Definition::size).max().getAsInt();
            int align = common.stream().mapToInt(Definition::align).max().getAsInt();
            f.definitions.put(name, new Definition(Kind.COMMON, -1, -1, -1, false, size, align));
        } else if (!weak.isEmpty()) {
            f.definitions.put(name, weak.get(0));
        }
    }

    private void reach(Found f, int name) {
        Definition d = f.definitions.get(name);
        if (d != null && d.kind == Kind.COMMON) {
            f.commons.add(name);
        } else if (d != null) {
            f.sections.add(d.section);
        }
    }

    private void reachAll(Found f) {
        for (int s = 0; s < sections.size(); s++) {
            if (sections.get(s).isKept && f.taken.contains(sections.get(s).object)) {
                f.sections.add(s);
            }
        }
        reach(f, f.entry);
        for (int name : f.definitions.keySet()) {
            if (f.isShared && !f.definitions.get(name).isHidden) {
                reach(f, name);
            }
        }
        int before;
        do {
            before = f.sections.size();
            for (int s : new ArrayList<>(f.sections)) {
                for (Piece p : sections.get(s).pieces) {
                    if (p.isReference()) {
                        reach(f, p.name);
                    }
                }
            }
        } while (f.sections.size() > before);
        for (int object : f.taken) {
            for (int s : f.sections) {
                if (sections.get(s).object == object) {
                    f.order.add(s);
                }
            }
        }
    }

    private void countReferences(Found f) {
        for (int s : f.sections) {
            for (Piece p : sections.get(s).pieces) {
                if (p.isReference()) {
                    f.references.merge(p.name, 1, Integer::sum);
                    if (f.isShared && !f.definitions.containsKey(p.name)) {
                        f.imports.add(p.name);
                    }
                }
            }
        }
    }

    private int words(Found f, int section, int place) {
        Piece p = sections.get(section).pieces.get(place);
        return f.longs.contains(new Jump(section, place)) ? 5 : p.words;
    }

    private int wordsAhead(Found f, int section, int place) {
        int words = 0;
        for (int k = 0; k < place; k++) {
            words += words(f, section, k);
        }
        return words;
    }

    private static int nextDivisible(int address, int align) {
        int next = address;
        while (next % align != 0) {
            next++;
        }
        return next;
    }

    private void layOut(Found f) {
        int at = 1;
        f.used = 0;
        for (int s : f.order) {
            at = nextDivisible(at, sections.get(s).align);
            f.addresses.put(s, at);
            int length = wordsAhead(f, s, sections.get(s).pieces.size());
            f.lengths.put(s, length);
            at += length;
            f.used += length;
        }
        for (int name : f.commons) {
            Definition d = f.definitions.get(name);
            at = nextDivisible(at, d.align);
            f.nameAddresses.put(name, at);
            at += d.size;
            f.used += d.size;
        }
        f.size = at;
        for (Map.Entry<Integer, Definition> e : f.definitions.entrySet()) {
            Definition d = e.getValue();
            if (d.kind != Kind.COMMON && f.sections.contains(d.section)) {
                f.nameAddresses.put(e.getKey(), f.addresses.get(d.section) + wordsAhead(f, d.section, d.place));
            }
        }
    }

    private int standsFor(Found f, int name) {
        return f.definitions.containsKey(name) ? f.nameAddresses.get(name) : 0;
    }

    private Set<Jump> tooFar(Found f, int byReach) {
        Set<Jump> more = new LinkedHashSet<>();
        for (int s : f.order) {
            for (int k = 0; k < sections.get(s).pieces.size(); k++) {
                Piece p = sections.get(s).pieces.get(k);
                if (p.isJump && !f.longs.contains(new Jump(s, k))) {
                    int behind = f.addresses.get(s) + wordsAhead(f, s, k) + 2;
                    int target = standsFor(f, p.name);
                    if (behind - target > byReach || target - behind > byReach) {
                        more.add(new Jump(s, k));
                    }
                }
            }
        }
        return more;
    }

    private void writeImage(Found f) {
        f.image = new int[f.size];
        for (int s : f.order) {
            for (int k = 0; k < sections.get(s).pieces.size(); k++) {
                Piece p = sections.get(s).pieces.get(k);
                int at = f.addresses.get(s) + wordsAhead(f, s, k);
                if (p.isJump && f.longs.contains(new Jump(s, k))) {
                    f.image[at] = -2;
                    f.image[at + 1] = standsFor(f, p.name);
                } else if (p.isJump) {
                    f.image[at] = -1;
                    f.image[at + 1] = standsFor(f, p.name) - at - 2;
                } else if (p.isReference()) {
                    f.image[at] = standsFor(f, p.name) + p.added;
                }
            }
        }
    }

    private void tellFaults(Found f, int byLimit) {
        for (int name : f.twice) {
            f.faults.add(new int[] {1, name, -1, -1});
        }
        if (!f.definitions.containsKey(f.entry)) {
            f.faults.add(new int[] {2, f.entry, -1, -1});
        }
        for (int s : f.order) {
            for (int k = 0; k < sections.get(s).pieces.size(); k++) {
                Piece p = sections.get(s).pieces.get(k);
                if (p.isFill) {
                    continue;
                }
                boolean isLost = !f.definitions.containsKey(p.name);
                if (isLost && !f.isShared && !p.isWeak) {
                    f.faults.add(new int[] {3, p.name, s, k});
                }
                if (!p.isJump && !(isLost && f.isShared) && !between(0, standsFor(f, p.name) + p.added, byLimit)) {
                    f.faults.add(new int[] {4, p.name, s, k});
                }
            }
        }
    }

    private int longsIn(int section) {
        return latest == null ? 0 : (int) latest.longs.stream().filter(j -> j.section == section).count();
    }

    int ofSection(int section, int what) {
        range(hasSection(section));
        argument(between(0, what, 6));
        Section s = sections.get(section);
        boolean isReached = latest != null && latest.sections.contains(section);
        return switch (what) {
            case 0 -> s.object;
            case 1 -> s.align;
            case 2 -> s.pieces.size();
            case 3 -> isReached ? 1 : 0;
            case 4 -> isReached ? latest.addresses.get(section) : -1;
            case 5 -> isReached ? latest.lengths.get(section) : 0;
            default -> longsIn(section);
        };
    }

    int ofName(int name, int what) {
        argument(between(0, name, 19) && between(0, what, 4));
        if (latest == null) {
            return what < 3 ? -1 : 0;
        }
        Definition d = latest.definitions.get(name);
        return switch (what) {
            case 0 -> d == null ? -1 : d.kind.ordinal();
            case 1 -> d == null ? -1 : d.object;
            case 2 -> latest.nameAddresses.getOrDefault(name, -1);
            case 3 -> latest.imports.contains(name) ? 1 : 0;
            default -> latest.references.getOrDefault(name, 0);
        };
    }

    int fault(int k, int what) {
        range(latest != null && between(0, k, latest.faults.size() - 1));
        argument(between(0, what, 3));
        return latest.faults.get(k)[what];
    }

    int wordAt(int address) {
        range(latest != null && between(0, address, latest.size - 1));
        return latest.image[address];
    }

    int publish(int needs) {
        argument(between(0, needs, 63));
        argument(!members(needs).contains(libraries.size()));
        state(libraries.size() < 6 && latest != null && latest.isShared && latest.faults.isEmpty());
        Library library = new Library();
        library.size = latest.size;
        library.needs = needs;
        library.imports.addAll(latest.imports);
        for (Map.Entry<Integer, Definition> e : latest.definitions.entrySet()) {
            if (!e.getValue().isHidden && latest.nameAddresses.containsKey(e.getKey())) {
                library.exports.put(e.getKey(), latest.nameAddresses.get(e.getKey()));
            }
        }
        libraries.add(library);
        return libraries.size() - 1;
    }

    private List<Integer> needed(int library) {
        List<Integer> needed = new ArrayList<>(members(libraries.get(library).needs));
        needed.removeIf(k -> k >= libraries.size());
        return needed;
    }

    private Set<Integer> row(int library) {
        Set<Integer> row = new LinkedHashSet<>(List.of(library));
        List<Integer> toLookAt = new ArrayList<>(List.of(library));
        while (!toLookAt.isEmpty()) {
            for (int next : needed(toLookAt.remove(0))) {
                if (row.add(next)) {
                    toLookAt.add(next);
                }
            }
        }
        return row;
    }

    private int freeBase() {
        int base = 64;
        for (Library other : libraries) {
            while (other.base != -1 && base < other.base + other.size) {
                base += 64;
            }
        }
        return base;
    }

    int open(int library, boolean isGlobal) {
        range(hasLibrary(library));
        libraries.get(library).count++;
        Set<Integer> fresh = new TreeSet<>();
        for (int k : row(library)) {
            if (libraries.get(k).base == -1) {
                libraries.get(k).base = freeBase();
                fresh.add(k);
            }
        }
        for (int k : row(library)) {
            if (isGlobal && !globals.contains(k)) {
                globals.add(k);
            }
        }
        goTo(library, fresh, new TreeSet<>());
        return fresh.size();
    }

    private void goTo(int library, Set<Integer> fresh, Set<Integer> gone) {
        gone.add(library);
        for (int k : needed(library)) {
            if (!gone.contains(k)) {
                goTo(k, fresh, gone);
            }
        }
        if (fresh.contains(library)) {
            initialised.add(library);
        }
    }

    private Set<Integer> idle() {
        Set<Integer> idle = new TreeSet<>(initialised);
        for (int k = 0; k < libraries.size(); k++) {
            if (libraries.get(k).count > 0) {
                idle.removeAll(row(k));
            }
        }
        return idle;
    }

    int close(int library) {
        range(hasLibrary(library));
        state(libraries.get(library).count > 0);
        libraries.get(library).count--;
        Set<Integer> idle = idle();
        for (int k : idle) {
            libraries.get(k).base = -1;
            libraries.get(k).bound.clear();
        }
        globals.removeAll(idle);
        initialised.removeAll(idle);
        for (Library other : libraries) {
            other.bound.values().removeAll(idle);
        }
        return idle.size();
    }

    private int exporter(int library, int name) {
        List<Integer> asked = new ArrayList<>(globals);
        asked.addAll(row(library));
        for (int k : asked) {
            if (libraries.get(k).base != -1 && libraries.get(k).exports.containsKey(name)) {
                return k;
            }
        }
        return -1;
    }

    int call(int library, int name) {
        range(hasLibrary(library));
        argument(between(0, name, 19));
        Library l = libraries.get(library);
        state(l.base != -1 && l.imports.contains(name));
        if (!l.bound.containsKey(name) && exporter(library, name) != -1) {
            l.bound.put(name, exporter(library, name));
        }
        return l.bound.getOrDefault(name, -1);
    }

    int ofBinding(int library, int name, int what) {
        range(hasLibrary(library));
        argument(between(0, name, 19) && between(0, what, 3));
        Library l = libraries.get(library);
        int target = l.bound.getOrDefault(name, -1);
        return switch (what) {
            case 0 -> l.exports.getOrDefault(name, -1);
            case 1 -> l.imports.contains(name) ? 1 : 0;
            case 2 -> target;
            default -> target == -1 ? -1 : libraries.get(target).base + libraries.get(target).exports.get(name);
        };
    }

    int ofLibrary(int library, int what) {
        range(hasLibrary(library));
        argument(between(0, what, 7));
        Library l = libraries.get(library);
        return switch (what) {
            case 0 -> l.size;
            case 1 -> l.exports.size();
            case 2 -> l.imports.size();
            case 3 -> l.needs;
            case 4 -> l.count;
            case 5 -> l.base;
            case 6 -> globals.indexOf(library);
            default -> initialised.indexOf(library);
        };
    }

    int many(int what) {
        argument(between(0, what, 12));
        if (what >= 7 && latest == null) {
            return 0;
        }
        return switch (what) {
            case 0 -> objects.size();
            case 1 -> sections.size();
            case 2 -> items.size();
            case 3 -> libraries.size();
            case 4 -> (int) libraries.stream().filter(l -> l.base != -1).count();
            case 5 -> globals.size();
            case 6 -> libraries.stream().mapToInt(l -> l.bound.size()).sum();
            case 7 -> latest.taken.size();
            case 8 -> latest.sections.size();
            case 9 -> latest.size;
            case 10 -> latest.faults.size();
            case 11 -> latest.longs.size();
            default -> latest.imports.size();
        };
    }

    double usedPart() {
        return latest == null ? 0 : (double) latest.used / latest.size;
    }

    int sizeWith(int byReach) {
        argument(between(1, byReach, 500));
        state(latest != null);
        return find(latest.entry, latest.isShared, byReach, limit, -1).size;
    }

    int faultsWithout(int object) {
        range(hasObject(object));
        state(latest != null);
        return find(latest.entry, latest.isShared, reach, limit, object).faults.size();
    }

    int goes(int library) {
        range(hasLibrary(library));
        if (libraries.get(library).count == 0) {
            return 0;
        }
        libraries.get(library).count--;
        int set = 0;
        for (int k : idle()) {
            set += 1 << k;
        }
        libraries.get(library).count++;
        return set;
    }

    int wouldBind(int library, int name) {
        range(hasLibrary(library));
        argument(between(0, name, 19));
        Library l = libraries.get(library);
        return l.base != -1 && l.imports.contains(name) ? exporter(library, name) : -1;
    }

    long digest() {
        List<Integer> all = new ArrayList<>();
        for (int what = 0; what <= 12; what++) {
            all.add(many(what));
        }
        for (int k = 0; k < objects.size(); k++) {
            for (int what = 0; what <= 3; what++) {
                all.add(ofObject(k, what));
            }
        }
        for (int k = 0; k < sections.size(); k++) {
            for (int what = 0; what <= 6; what++) {
                all.add(ofSection(k, what));
            }
        }
        for (int k = 0; k < 20; k++) {
            for (int what = 0; what <= 4; what++) {
                all.add(ofName(k, what));
            }
        }
        for (int k = 0; k < many(10); k++) {
            for (int what = 0; what <= 3; what++) {
                all.add(fault(k, what));
            }
        }
        for (int k = 0; k < many(9); k++) {
            all.add(wordAt(k));
        }
        for (int k = 0; k < libraries.size(); k++) {
            for (int what = 0; what <= 7; what++) {
                all.add(ofLibrary(k, what));
            }
            all.add(goes(k));
            for (int name = 0; name < 20; name++) {
                for (int what = 0; what <= 3; what++) {
                    all.add(ofBinding(k, name, what));
                }
                all.add(wouldBind(k, name));
            }
        }
        if (latest != null) {
            all.add(sizeWith(10));
            for (int k = 0; k < objects.size(); k++) {
                all.add(faultsWithout(k));
            }
        }
        long d = 58133;
        for (int v : all) {
            d = d * 31 + v;
        }
        return d;
    }
}
