import java.util.ArrayList;
import java.util.List;

/**
 * Runs of calls, chosen by a fixed row of numbers, on the program and on the Model: each answer, or each
 * exception's class, has to be the same. Promises 1 to 30.
 */
public final class ModelTest {
    private static final int RUNS = 2500;
    // What later calls answer is free.
    private static final int MOST_CALLS = 512;

    private final Check check = new Check("ModelTest");
    private final long[] seen = new long[16];
    private long chosen = 20261119L;
    private LinkHarbour program;
    private Model model;
    private List<String> told;
    private boolean isWrong;
    private int calls;
    // How the numbers of one run are chosen, so that runs differ in what they come to.
    private int names;
    private int wrongArguments;
    private int lowestAdded;
    private int widestFill;

    private interface Call {
        long answer();
    }

    public static void main(String[] args) {
        ModelTest test = new ModelTest();
        for (int run = 0; run < RUNS; run++) {
            test.run(run);
        }
        test.tellWhatWasSeen();
        test.check.end();
    }

    private int choose(int count) {
        chosen = chosen * 6364136223846793005L + 1442695040888963407L;
        return (int) ((chosen >>> 33) % count);
    }

    private boolean isChosen(int percent) {
        return choose(100) < percent;
    }

    /** A number of 0 to count - 1, or, seldom, one that is out of that. */
    private int number(int count) {
        if (choose(1000) < wrongArguments) {
            int[] odd = {-1, count, count + 1, Integer.MAX_VALUE, Integer.MIN_VALUE, 64, -2};
            return odd[choose(odd.length)];
        }
        return count <= 0 ? 0 : choose(count);
    }

    private int align() {
        return choose(1000) < wrongArguments ? choose(40) - 5 : 1 << choose(5);
    }

    private static String outcome(Call call) {
        try {
            return String.valueOf(call.answer());
        } catch (RuntimeException e) {
            return e.getClass().getName();
        }
    }

    private void same(String what, Call ofProgram, Call ofModel) {
        if (calls >= MOST_CALLS) {
            return;
        }
        calls++;
        String got = outcome(ofProgram);
        String want = outcome(ofModel);
        told.add(what + " -> " + got);
        check.due(what, want, got);
        if (!want.equals(got) && !isWrong) {
            isWrong = true;
            System.out.println("the run that led there:");
            told.forEach(System.out::println);
        }
    }

    private void run(int run) {
        program = new LinkHarbour();
        model = new Model();
        told = new ArrayList<>();
        isWrong = false;
        calls = 0;
        names = run % 3 == 0 ? 20 : 3 + choose(12);
        wrongArguments = run % 4 == 0 ? 60 : 4;
        lowestAdded = run % 2 == 0 ? 0 : -50;
        widestFill = run % 5 == 0 ? 40 : 1 + choose(12);
        int start = 10 + choose(90);
        for (int k = 0; calls < MOST_CALLS && !isWrong; k++) {
            if (k < start) {
                build();
            } else {
                step();
            }
        }
    }

    private int objects() {
        return model.many(0);
    }

    private int sections() {
        return model.many(1);
    }

    private int libraries() {
        return model.many(3);
    }

    private void step() {
        int kind = choose(100);
        if (kind < 22) {
            build();
        } else if (kind < 37) {
            link();
        } else if (kind < 60) {
            useLibraries();
        } else {
            look();
        }
    }

    private void build() {
        int kind = choose(100);
        if (kind < 8 || objects() == 0) {
            same("object()", program::object, model::object);
        } else if (kind < 22 || sections() == 0) {
            int object = number(objects());
            int align = align();
            boolean isKept = isChosen(40);
            same("section(" + object + ", " + align + ", " + isKept + ")",
                    () -> program.section(object, align, isKept), () -> model.section(object, align, isKept));
        } else if (kind < 72) {
            addToSection();
        } else if (kind < 80) {
            int object = number(objects());
            int name = number(names);
            int size = 1 + number(40);
            int align = align();
            same("common(" + object + ", " + name + ", " + size + ", " + align + ")",
                    () -> program.common(object, name, size, align), () -> model.common(object, name, size, align));
        } else {
            arrange();
        }
    }

    private void addToSection() {
        int section = number(sections());
        int name = number(names);
        boolean isWeak = isChosen(25);
        switch (choose(4)) {
            case 0 -> {
                int words = 1 + number(widestFill);
                same("fill(" + section + ", " + words + ")",
                        () -> program.fill(section, words), () -> model.fill(section, words));
            }
            case 1 -> {
                int added = isChosen(3) ? number(120) - 60 : lowestAdded + number(51 - lowestAdded);
                same("word(" + section + ", " + name + ", " + added + ", " + isWeak + ")",
                        () -> program.word(section, name, added, isWeak),
                        () -> model.word(section, name, added, isWeak));
            }
            case 2 -> same("jump(" + section + ", " + name + ", " + isWeak + ")",
                    () -> program.jump(section, name, isWeak), () -> model.jump(section, name, isWeak));
            default -> {
                boolean isHidden = isChosen(25);
                same("define(" + section + ", " + name + ", " + isWeak + ", " + isHidden + ")",
                        () -> program.define(section, name, isWeak, isHidden),
                        () -> model.define(section, name, isWeak, isHidden));
            }
        }
    }

    private void arrange() {
        if (isChosen(8)) {
            same("clear()", program::clear, model::clear);
            return;
        }
        int set = 0;
        for (int object = 0; object < objects(); object++) {
            if (model.ofObject(object, 2) == -1 && isChosen(45)) {
                set |= 1 << object;
            }
        }
        int objects = isChosen(8) ? number(1 << objects()) : set;
        int kind = number(3);
        same("item(" + objects + ", " + kind + ")",
                () -> program.item(objects, kind), () -> model.item(objects, kind));
    }

    private void link() {
        if (isChosen(20)) {
            int reach = 1 + number(isChosen(70) ? 30 : 500);
            int limit = isChosen(60) ? 9999 : number(isChosen(50) ? 120 : 10000);
            same("bounds(" + reach + ", " + limit + ")",
                    () -> program.bounds(reach, limit), () -> model.bounds(reach, limit));
            return;
        }
        int entry = number(names);
        boolean isShared = isChosen(65);
        same("link(" + entry + ", " + isShared + ")",
                () -> program.link(entry, isShared), () -> model.link(entry, isShared));
        seen[0] += model.many(10) == 0 ? 1 : 0;
        seen[1] += model.many(11) > 0 ? 1 : 0;
        seen[2] += model.many(12) > 0 ? 1 : 0;
        seen[3] += model.many(7) > 3 ? 1 : 0;
        int needs = isChosen(80) ? choose(64) & ~(1 << libraries()) : number(64);
        if (model.many(10) == 0 && isShared || isChosen(5)) {
            same("publish(" + needs + ")", () -> program.publish(needs), () -> model.publish(needs));
            return;
        }
        looseEnds();
    }

    /** A plain way to a link without FAULTS, so that there are LIBRARIES in most runs. */
    private void looseEnds() {
        if (isChosen(50)) {
            same("clear()", program::clear, model::clear);
        }
        int object = number(objects());
        same("item(" + (1 << object) + ", 0)",
                () -> program.item(1 << object, 0), () -> model.item(1 << object, 0));
        for (int name = 0; name < names; name++) {
            int entry = name;
            if (model.many(10) > 0) {
                same("link(" + entry + ", true)", () -> program.link(entry, true), () -> model.link(entry, true));
            }
        }
        int needs = choose(64) & ~(1 << libraries());
        same("publish(" + needs + ")", () -> program.publish(needs), () -> model.publish(needs));
    }

    private void useLibraries() {
        int library = number(libraries());
        int name = number(names);
        boolean isGlobal = isChosen(35);
        switch (choose(7)) {
            case 0, 1 -> same("open(" + library + ", " + isGlobal + ")",
                    () -> program.open(library, isGlobal), () -> model.open(library, isGlobal));
            case 2 -> same("close(" + library + ")", () -> program.close(library), () -> model.close(library));
            case 3 -> same("goes(" + library + ")", () -> program.goes(library), () -> model.goes(library));
            default -> {
                callSome(library, name);
                same("wouldBind(" + library + ", " + name + ")",
                        () -> program.wouldBind(library, name), () -> model.wouldBind(library, name));
            }
        }
        seen[4] += model.many(4) > 2 ? 1 : 0;
        seen[5] += model.many(5) > 1 ? 1 : 0;
        seen[6] += model.many(6) > 0 ? 1 : 0;
    }

    private void callSome(int library, int name) {
        same("call(" + library + ", " + name + ")",
                () -> program.call(library, name), () -> model.call(library, name));
        for (int k = 0; k < libraries(); k++) {
            for (int other = 0; other < 20; other++) {
                int from = k;
                int to = other;
                if (model.ofLibrary(from, 5) != -1 && model.ofBinding(from, to, 1) == 1 && isChosen(20)) {
                    same("call(" + from + ", " + to + ")",
                            () -> program.call(from, to), () -> model.call(from, to));
                }
            }
        }
    }

    private void look() {
        int object = number(objects());
        int section = number(sections());
        int library = number(libraries());
        int name = number(20);
        int what = number(14);
        switch (choose(12)) {
            case 0 -> same("ofObject(" + object + ", " + what + ")",
                    () -> program.ofObject(object, what), () -> model.ofObject(object, what));
            case 1 -> same("ofSection(" + section + ", " + what + ")",
                    () -> program.ofSection(section, what), () -> model.ofSection(section, what));
            case 2 -> same("ofName(" + name + ", " + what + ")",
                    () -> program.ofName(name, what), () -> model.ofName(name, what));
            case 3 -> {
                int k = number(model.many(10));
                same("fault(" + k + ", " + what + ")", () -> program.fault(k, what), () -> model.fault(k, what));
            }
            case 4 -> {
                int address = number(model.many(9));
                same("wordAt(" + address + ")", () -> program.wordAt(address), () -> model.wordAt(address));
            }
            case 5 -> same("ofBinding(" + library + ", " + name + ", " + what + ")",
                    () -> program.ofBinding(library, name, what), () -> model.ofBinding(library, name, what));
            case 6 -> same("ofLibrary(" + library + ", " + what + ")",
                    () -> program.ofLibrary(library, what), () -> model.ofLibrary(library, what));
            case 7 -> same("many(" + what + ")", () -> program.many(what), () -> model.many(what));
            case 8 -> {
                int reach = 1 + number(isChosen(60) ? 40 : 500);
                same("sizeWith(" + reach + ")", () -> program.sizeWith(reach), () -> model.sizeWith(reach));
            }
            case 9 -> same("faultsWithout(" + object + ")",
                    () -> program.faultsWithout(object), () -> model.faultsWithout(object));
            case 10 -> same("usedPart()", () -> Double.doubleToLongBits(program.usedPart()),
                    () -> Double.doubleToLongBits(model.usedPart()));
            default -> {
                if (isChosen(40)) {
                    same("digest()", program::digest, model::digest);
                    seen[7]++;
                }
            }
        }
    }

    /** Runs that never come to a thing can't test it. */
    private void tellWhatWasSeen() {
        String[] things = {"links without FAULTS", "links with LONG JUMPS", "links with IMPORTS",
            "links with more than 3 TAKEN", "more than 2 LOADED", "more than 1 GLOBAL", "bindings", "digests"};
        for (int k = 0; k < things.length; k++) {
            System.out.println("ModelTest: " + things[k] + ": " + seen[k]);
            check.due(things[k] + " were seen often", 1, seen[k] > 500 ? 1 : 0);
        }
    }
}
