/**
 * Edges of promises 1, 2, 3, 6, 7, 8 and 9, of the head 'FUNCTION' (its limits), and of "BAD comes before NO, and this
 * before FULL": a method for each sentence; and what a refused call leaves as it was.
 */
public final class EdgeTellTest {
    private static final int[] FAR = {Integer.MIN_VALUE, -256, -100, -2, 100, 256, Integer.MAX_VALUE};
    private static final int[] MOST = {8, 8, 32};

    public static void main(String[] args) {
        newObjectHasNoStructures();
        newObjectHasNoElements();
        newObjectHasNoFunctions();
        objectsShareNothing();
        structureAbilities();
        structureNumbers();
        structureWithoutFields();
        structureRefused();
        fieldHowMany();
        fieldOfTheLatest();
        fieldOfItself();
        fieldBad();
        fieldNo();
        fieldFull();
        fieldRefusedLeaves();
        elementNumbers();
        elementBad();
        elementFull();
        elementsStand();
        functionFlags();
        functionNumbers();
        functionIsEmpty();
        functionRefused();
        listHowMany();
        listBad();
        listNo();
        listFull();
        listOfTheLatest();
        whatItTakesCountsBefore();
        listRefusedLeaves();
        instructionHowMany();
        instructionBad();
        instructionNo();
        instructionFull();
        instructionOfTheLatest();
        instructionRefusedLeaves();
        Due.end();
    }

    private static void due(String what, long got, long want) {
        Due.due(what, got, want);
    }

    /** Promise 1: "No structures, element types, functions." */
    private static void newObjectHasNoStructures() {
        AbilityChecker x = new AbilityChecker();
        due("bears(0)", x.bears(0), Edge.BAD);
        due("abilities of structure 0", x.abilities(0x0600), Edge.BAD);
        due("field(1)", x.field(1), Edge.NO);
        due("an element of structure 0", x.element(0x0600), Edge.BAD);
        x.function(4);
        due("a list of structure 0", x.list(0, 0x0600), Edge.BAD);
        x.instruction(21, 0, 0);
        due("21 0", x.check(0), -16);
        due("the first structure", x.structure(0), 0);
        due("21 0 then comes to no next", x.check(0), -11);
    }

    private static void newObjectHasNoElements() {
        AbilityChecker x = new AbilityChecker();
        x.function(0);
        x.instruction(52, 0, 0);
        due("52 0 0", x.check(0), -16);
        due("the first element type", x.element(5), 0);
        due("52 0 0 then comes to no next", x.check(0), -11);
    }

    private static void newObjectHasNoFunctions() {
        AbilityChecker x = new AbilityChecker();
        for (int what = 0; what < 3; what++) {
            due("list " + what, x.list(what, 1), Edge.NO);
        }
        due("instruction", x.instruction(0, 0, 0), Edge.NO);
        due("check(0)", x.check(0), -101);
        due("place()", x.place(), Edge.NO);
        due("height(0)", x.height(0), Edge.BAD);
        due("there(0, 0)", x.there(0, 0), Edge.BAD);
        due("origins(0, 0)", x.origins(0, 0), 0);
        due("the first function", x.function(0), 0);
        x.instruction(23, 1, 0);
        due("23 1", x.check(0), -16);
        due("the second function", x.function(0), 1);
        due("23 1 then comes to no next", x.check(0), -11);
    }

    private static void objectsShareNothing() {
        AbilityChecker x = new AbilityChecker();
        x.structure(3);
        x.field(1);
        x.element(1);
        x.function(7);
        x.list(0, 1);
        x.instruction(1, 0, 0);
        x.check(0);
        AbilityChecker y = new AbilityChecker();
        due("another's structures", y.bears(0), Edge.BAD);
        due("another's functions", y.check(0), -101);
        due("another's field", y.field(1), Edge.NO);
        due("another's first structure", y.structure(12), 0);
        due("another's first field", y.field(1), 1);
        due("another's first element", y.element(2), 0);
        due("another's first function", y.function(0), 0);
        due("another's first local", y.list(0, 2), 1);
        due("another's first instruction", y.instruction(35, 0, 0), 1);
        due("another's height", y.height(0), Edge.BAD);
        due("the first one's structure", x.abilities(0x0600), 3);
        due("the first one's state", x.there(0, 0), 1);
        due("the first one's fields", x.field(1), 2);
    }

    /** Promise 2: "BAD when these are not 0 .. 15". */
    private static void structureAbilities() {
        AbilityChecker x = new AbilityChecker();
        due("structure(-1)", x.structure(-1), Edge.BAD);
        due("structure(0)", x.structure(0), 0);
        due("structure(15)", x.structure(15), 1);
        due("structure(16)", x.structure(16), Edge.BAD);
        due("structure(17)", x.structure(17), Edge.BAD);
        for (int abilities : FAR) {
            due("structure(" + abilities + ")", x.structure(abilities), Edge.BAD);
        }
        for (int abilities = 0; abilities < 16; abilities++) {
            due("structure(" + abilities + ")", x.structure(abilities), 2 + abilities);
            due("its abilities", x.abilities(0x0602 + abilities), abilities);
        }
    }

    /** "its number": from 0 on; "FULL when there are 32". */
    private static void structureNumbers() {
        AbilityChecker x = new AbilityChecker();
        for (int k = 0; k < 32; k++) {
            due("structure no. " + k, x.structure(15), k);
        }
        for (int k = 0; k < 3; k++) {
            due("structure(0) beyond 32", x.structure(0), Edge.FULL);
            due("structure(15) beyond 32", x.structure(15), Edge.FULL);
        }
    }

    /** "A structure without fields". */
    private static void structureWithoutFields() {
        new Told().structure(15).function(0).does("21 0" + Edge.ABORT).isTaken("packed of nothing");
        new Told().structure(15).function(0).does("16 0 0").fails("no field 0", 16, 0);
        AbilityChecker x = new AbilityChecker();
        x.structure(1);
        x.field(1);
        x.field(1);
        x.structure(1);
        due("the next one's first field", x.field(1), 1);
    }

    /** "BAD comes .. before FULL"; what is refused spends no number, and leaves the latest as it was. */
    private static void structureRefused() {
        AbilityChecker x = new AbilityChecker();
        due("BAD", x.structure(16), Edge.BAD);
        due("BAD made none", x.bears(0), Edge.BAD);
        due("BAD left no latest", x.field(1), Edge.NO);
        due("the first", x.structure(2), 0);
        due("its field", x.field(1), 1);
        due("BAD again", x.structure(-1), Edge.BAD);
        due("its second field", x.field(1), 2);
        for (int k = 1; k < 32; k++) {
            due("structure no. " + k, x.structure(3), k);
        }
        due("field of the last", x.field(1), 1);
        due("FULL", x.structure(12), Edge.FULL);
        due("BAD before FULL, below", x.structure(-1), Edge.BAD);
        due("BAD before FULL, above", x.structure(16), Edge.BAD);
        due("field of the last again", x.field(1), 2);
        due("the last one's abilities", x.abilities(0x061f), 3);
        due("the first one's abilities", x.abilities(0x0600), 2);
        due("none beyond", x.abilities(0x0620), Edge.BAD);
        due("none beyond bears", x.bears(32), Edge.BAD);
    }

    /** Promise 3: "A field more of the latest structure: how many." */
    private static void fieldHowMany() {
        AbilityChecker x = new AbilityChecker();
        x.structure(0);
        for (int k = 1; k <= 16; k++) {
            due("field no. " + k, x.field(1 + k % 5), k);
        }
        Told told = new Told().structure(0, 1, 2, 3, 4, 5, 1, 2, 3, 4, 5, 1, 2, 3, 4, 5, 0x0702).function(0);
        told.does("8; 5; 6; 7; 10; 8; 5; 6; 7; 10; 8; 5; 6; 7; 10; 52 0; 21 0; 22 0").element(2);
        told.fails("packed of all sixteen in their order", 11, 17);
    }

    private static void fieldOfTheLatest() {
        Told told = new Told().structure(7, 3).structure(7, 1, 1).function(0).takes(0x0600, 0x0601);
        told.does("12 1; 22 1; 0; 0; 12 0; 22 0; 0; 1").isTaken("each has its own");
        due("the second's third", told.x.field(5), 3);
        told.function(0).takes(0x0600).does("12 0; 22 0; 0; 1").isTaken("the first has got none");
        told.function(0).takes(0x0601).gives(1, 1, 5).does("12 0; 22 1; 1").isTaken("the second has");
        due("the third", told.x.structure(0), 2);
        due("the third's first", told.x.field(5), 1);
    }

    /** "(It may be of that structure itself.)" */
    private static void fieldOfItself() {
        AbilityChecker x = new AbilityChecker();
        due("not before it is", x.field(0x0600), Edge.BAD);
        x.structure(7);
        due("of itself", x.field(0x0600), 1);
        due("of its vector", x.field(0x070600), 2);
        due("of four vectors", x.field(0x070707070600L), 3);
        due("not of the next one", x.field(0x0601), Edge.BAD);
        x.structure(7);
        due("of the one before", x.field(0x0600), 1);
        due("of itself, the second", x.field(0x0601), 2);
        for (int k = 2; k < 32; k++) {
            x.structure(7);
        }
        due("of itself, the last", x.field(0x061f), 1);
        due("of none", x.field(0x0620), Edge.BAD);
    }

    /** "BAD when it is no TYPE of structures that there are, or a reference". */
    private static void fieldBad() {
        AbilityChecker x = new AbilityChecker();
        x.structure(7);
        long[] none = {0, 6, 7, 8, 0x0601, 0x070601, 0x0707070707L, 0x0803, 0x0903, 0x080600, 0x090703, -1, 0x0808};
        for (long type : none) {
            due("field(" + Long.toHexString(type) + ")", x.field(type), Edge.BAD);
        }
        due("it has none yet", x.field(3), 1);
    }

    /** "NO when there is no structure"; "BAD comes before NO". */
    private static void fieldNo() {
        AbilityChecker x = new AbilityChecker();
        for (long type = 1; type <= 5; type++) {
            due("field(" + type + ")", x.field(type), Edge.NO);
            due("field of four 7s", x.field(Edge.sevens(4, type)), Edge.NO);
            due("BAD before NO: five 7s", x.field(Edge.sevens(5, type)), Edge.BAD);
            due("BAD before NO: a reference", x.field(Edge.reading(type)), Edge.BAD);
            due("BAD before NO: a writing one", x.field(Edge.writing(type)), Edge.BAD);
        }
        due("BAD before NO: 0", x.field(0), Edge.BAD);
        due("BAD before NO: 6", x.field(6), Edge.BAD);
        due("BAD before NO: structure 0", x.field(0x0600), Edge.BAD);
        x.function(0);
        x.element(1);
        due("a function is no structure", x.field(1), Edge.NO);
        x.structure(0);
        due("then there is one", x.field(1), 1);
    }

    /** "FULL when it has 16"; "BAD comes before .. FULL". */
    private static void fieldFull() {
        AbilityChecker x = new AbilityChecker();
        x.structure(7);
        for (int k = 1; k <= 16; k++) {
            due("field no. " + k, x.field(3), k);
        }
        for (long type = 1; type <= 5; type++) {
            due("field beyond 16", x.field(type), Edge.FULL);
        }
        due("field of itself beyond 16", x.field(0x0600), Edge.FULL);
        due("BAD before FULL: 0", x.field(0), Edge.BAD);
        due("BAD before FULL: a reference", x.field(0x0803), Edge.BAD);
        due("BAD before FULL: structure 1", x.field(0x0601), Edge.BAD);
        x.structure(7);
        due("the next one is not full", x.field(3), 1);
    }

    private static void fieldRefusedLeaves() {
        Told told = new Told().structure(7);
        for (int k = 0; k < 16; k++) {
            due("BAD", told.x.field(0x0803), Edge.BAD);
            due("field", told.x.field(k == 15 ? 1 : 3), k + 1);
        }
        due("FULL", told.x.field(5), Edge.FULL);
        due("FULL", told.x.field(5), Edge.FULL);
        due("it bears yet", told.x.bears(0), 1);
        told.function(0).takes(0x080600).does("12 0; 16 0 15; 0; 1").isTaken("field 15");
        told.function(0).takes(0x080600).locals(0x0801).does("12 0; 16 0 15; 13 1; 1").isTaken("field 15 is a truth");
        told.function(0).takes(0x080600).does("12 0; 16 0 16").fails("no field 16", 16, 1);
        told.function(0).does("15*6; 8; 21 0; 22 0; 0; 14*24; 45").isTaken("packed of sixteen");
    }

    /** Promise 6: "An element type: its number." */
    private static void elementNumbers() {
        AbilityChecker x = new AbilityChecker();
        for (int k = 0; k < 32; k++) {
            due("element no. " + k, x.element(1 + k % 5), k);
        }
        AbilityChecker y = new AbilityChecker();
        due("one", y.element(3), 0);
        due("the same once more", y.element(3), 1);
        due("four 7s", y.element(0x0707070703L), 2);
    }

    /** "BAD as for field()": there is no NO. */
    private static void elementBad() {
        AbilityChecker x = new AbilityChecker();
        long[] none = {0, 6, 7, 8, 9, 0x0600, 0x070600, 0x0707070707L, 0x070707070703L, 0x0803, 0x0903, 0x090703, -1};
        for (long type : none) {
            due("element(" + Long.toHexString(type) + ")", x.element(type), Edge.BAD);
        }
        due("BAD spends no number; no structure is wanted", x.element(3), 0);
        x.structure(0);
        due("of structure 0", x.element(0x0600), 1);
        due("of structure 1", x.element(0x0601), Edge.BAD);
        due("a reference to structure 0", x.element(0x090600), Edge.BAD);
        due("of a vector", x.element(0x070600), 2);
    }

    /** "FULL when there are 32"; "BAD comes before .. FULL". */
    private static void elementFull() {
        AbilityChecker x = new AbilityChecker();
        for (int k = 0; k < 32; k++) {
            x.element(3);
        }
        due("element(3)", x.element(3), Edge.FULL);
        due("element(5)", x.element(5), Edge.FULL);
        due("BAD before FULL: 0", x.element(0), Edge.BAD);
        due("BAD before FULL: structure 0", x.element(0x0600), Edge.BAD);
        due("BAD before FULL: a reference", x.element(0x0803), Edge.BAD);
        x.structure(0);
        due("FULL with structure 0", x.element(0x0600), Edge.FULL);
    }

    private static void elementsStand() {
        Told told = new Told();
        for (int k = 0; k < 32; k++) {
            told.element(k == 0 ? 1 : k == 31 ? 2 : 3);
        }
        due("FULL", told.x.element(5), Edge.FULL);
        told.function(0).gives(0x0702).does("5; 52 31 1; 1").isTaken("the last is of byte");
        told.function(0).gives(0x0701).does("8; 52 0 1; 1").isTaken("the first is of truth");
        told.function(0).gives(0x0703).does("6; 52 30 1; 1").isTaken("the last but one is of long");
        told.function(0).does("52 32 0").fails("none beyond", 16, 0);
    }

    /** Promise 7: "BAD when flags are not 0 .. 7". */
    private static void functionFlags() {
        AbilityChecker x = new AbilityChecker();
        due("function(-1)", x.function(-1), Edge.BAD);
        due("function(8)", x.function(8), Edge.BAD);
        due("function(9)", x.function(9), Edge.BAD);
        for (int flags : FAR) {
            due("function(" + flags + ")", x.function(flags), Edge.BAD);
        }
        for (int flags = 0; flags <= 7; flags++) {
            due("function(" + flags + ")", x.function(flags), flags);
        }
        for (int flags = 0; flags <= 7; flags++) {
            Told told = Edge.of(flags, Edge.ADDRESS).does("12 0; 49 8; 0; 1");
            if (flags >= 4) {
                told.isTaken("RESOURCES by " + flags);
            } else {
                told.fails("no RESOURCES by " + flags, 15, 1);
            }
        }
    }

    /** "its number": from 0 on; "FULL when there are 64"; "BAD comes before .. FULL". */
    private static void functionNumbers() {
        AbilityChecker x = new AbilityChecker();
        for (int k = 0; k < 64; k++) {
            due("function no. " + k, x.function(0), k);
        }
        for (int flags = 0; flags <= 7; flags++) {
            due("function beyond 64", x.function(flags), Edge.FULL);
        }
        due("BAD before FULL, above", x.function(8), Edge.BAD);
        due("BAD before FULL, below", x.function(-1), Edge.BAD);
    }

    /** "A function that takes and gives nothing, without locals and instructions". */
    private static void functionIsEmpty() {
        Told told = new Told().function(0).takes(3, 3).gives(3).locals(3, 3).does("12 0; 1").isTaken("one before");
        told.function(0);
        due("no instructions", told.x.check(1), -101);
        told.does("1").isTaken("gives nothing");
        due("no locals", told.x.there(0, 0), Edge.BAD);
        due("its second instruction", told.x.instruction(1, 0, 0), 2);
        due("the first it takes", told.x.list(0, 3), 1);
        due("the first it gives", told.x.list(1, 3), 1);
        due("its first local", told.x.list(2, 3), 1);
        new Told().function(0).does("6; 1").fails("gives nothing", 12, 1);
        new Told().function(0).does("11 0").fails("no local 0", 16, 0);
        new Told().function(0).function(0).does("23 0; 1").isTaken("takes nothing, gives nothing");
    }

    private static void functionRefused() {
        Told told = new Told();
        due("BAD", told.x.function(8), Edge.BAD);
        due("BAD made none", told.x.list(0, 3), Edge.NO);
        told.function(0).does("35");
        due("BAD", told.x.function(-1), Edge.BAD);
        told.does("1").isTaken("BAD left the latest");
        for (int k = 1; k < 64; k++) {
            told.function(0);
        }
        told.takes(1).does("35");
        due("FULL", told.x.function(4), Edge.FULL);
        due("FULL left the latest, its list", told.x.list(0, 3), 2);
        due("FULL left the latest, its code", told.x.instruction(1, 0, 0), 2);
        told.isTaken("FULL left the latest");
        due("none beyond", told.x.check(64), -101);
    }

    /** Promise 8: "takes one more (what = 0), gives one more (1), has a local more (2): how many of these". */
    private static void listHowMany() {
        AbilityChecker x = new AbilityChecker();
        x.function(0);
        for (int k = 1; k <= 32; k++) {
            for (int what = 0; what < 3; what++) {
                if (k <= MOST[what]) {
                    due("list " + what + " no. " + k, x.list(what, 1 + k % 5), k);
                }
            }
        }
        new Told().function(0).takes(3).gives(1).locals(2).does("5; 13 1; 12 0; 0; 8; 1").isTaken("each its own");
    }

    /** "BAD for another what, or no TYPE of structures that there are". References may be. */
    private static void listBad() {
        AbilityChecker x = new AbilityChecker();
        x.function(0);
        due("list(-1, 3)", x.list(-1, 3), Edge.BAD);
        due("list(3, 3)", x.list(3, 3), Edge.BAD);
        for (int what : FAR) {
            due("list(" + what + ", 3)", x.list(what, 3), Edge.BAD);
        }
        long[] none = {0, 6, 7, 8, 9, 0x0600, 0x080600, 0x0808, 0x080803, 0x090803, 0x070803, 0x070707070703L, -3};
        long[] some = {0x0803, 0x0903, 0x090703, 0x080707070702L};
        for (int what = 0; what < 3; what++) {
            for (long type : none) {
                due("list(" + what + ", " + Long.toHexString(type) + ")", x.list(what, type), Edge.BAD);
            }
            for (int k = 0; k < some.length; k++) {
                due("list(" + what + ", " + Long.toHexString(some[k]) + ")", x.list(what, some[k]), k + 1);
            }
        }
    }

    /** "NO when there is no function"; "BAD comes before NO". */
    private static void listNo() {
        AbilityChecker x = new AbilityChecker();
        x.structure(7);
        x.element(3);
        for (int what = 0; what < 3; what++) {
            due("list " + what, x.list(what, 3), Edge.NO);
            due("list " + what + " of a reference", x.list(what, 0x090600), Edge.NO);
            due("BAD before NO: no TYPE", x.list(what, 0), Edge.BAD);
            due("BAD before NO: structure 1", x.list(what, 0x0601), Edge.BAD);
        }
        due("BAD before NO: what 3", x.list(3, 3), Edge.BAD);
        due("BAD before NO: what -1", x.list(-1, 3), Edge.BAD);
        due("it made none", x.function(0), 0);
        due("then there is one", x.list(0, 3), 1);
    }

    /** "takes at most 8 values, gives at most 8, has at most 32 further LOCALS"; "BAD comes before .. FULL". */
    private static void listFull() {
        for (int full = 0; full < 3; full++) {
            AbilityChecker x = new AbilityChecker();
            x.function(0);
            for (int k = 1; k <= MOST[full]; k++) {
                due("list " + full + " no. " + k, x.list(full, 3), k);
            }
            due("list beyond", x.list(full, 3), Edge.FULL);
            due("list of another beyond", x.list(full, 0x0903), Edge.FULL);
            due("BAD before FULL: no TYPE", x.list(full, 0), Edge.BAD);
            due("BAD before FULL: structure 0", x.list(full, 0x0600), Edge.BAD);
            due("BAD before FULL: another what", x.list(3, 3), Edge.BAD);
            for (int other = 0; other < 3; other++) {
                if (other != full) {
                    due("one full, another not", x.list(other, 3), 1);
                }
            }
            x.function(0);
            due("the next one's is not full", x.list(full, 3), 1);
        }
    }

    /** "The latest function". */
    private static void listOfTheLatest() {
        Told told = new Told().function(0).takes(3).gives(3)
            .does("12 0; 1").function(0).takes(1, 1, 1).gives(1).locals(5);
        told.does("12 0; 1").isTaken("the latest");
        due("the first", told.x.check(0), 0);
        due("its local 0", told.x.there(0, 0), 1);
        due("it has no local 1", told.x.there(0, 1), Edge.BAD);
    }

    /** "(What it takes counts before its locals, whenever it comes.)" */
    private static void whatItTakesCountsBefore() {
        Told told = new Told().function(0).locals(1, 2).does("35; 1").isTaken("two locals");
        due("local 0 is gone", told.x.there(0, 0), 0);
        due("local 1 is gone", told.x.there(0, 1), 0);
        told.takes(0x0903).isTaken("and one taken");
        due("local 0 is there now", told.x.there(0, 0), 1);
        due("its origin", told.x.origins(0, 0), 1L << 40);
        due("local 1 is gone", told.x.there(0, 1), 0);
        due("local 2 is gone", told.x.there(0, 2), 0);
        told.locals(0x0803).takes(3, 0x0803).isTaken("two more taken");
        for (int k = 0; k < 7; k++) {
            due("there(0, " + k + ")", told.x.there(0, k), k < 3 ? 1 : k < 6 ? 0 : Edge.BAD);
        }
        due("the third's origin", told.x.origins(0, 2), 1L << 42);
        new Told().function(0).locals(1).takes(2).locals(3).takes(4).gives(2, 4, 1, 3)
            .does("8; 13 2; 6; 13 3; 12 0; 12 1; 12 2; 12 3; 1").isTaken("first what it takes, each in its order");
        new Told().function(0).locals(1).does("8; 13 0; 1").takes(2).fails("local 0 is another now", 3, 1);
    }

    private static void listRefusedLeaves() {
        Told told = new Told().function(0);
        long[] wrong = {0, 0x0600, 0x0808};
        for (int what = 0; what < 3; what++) {
            for (long type : wrong) {
                due("BAD", told.x.list(what, type), Edge.BAD);
            }
        }
        due("BAD", told.x.list(3, 3), Edge.BAD);
        told.does("1").isTaken("gives nothing yet");
        due("takes nothing yet", told.x.there(0, 0), Edge.BAD);
        told.takes(3, 3, 3, 3, 3, 3, 3, 3).gives(3, 3, 3, 3, 3, 3, 3, 3);
        for (int k = 0; k < 32; k++) {
            told.locals(1);
        }
        for (int what = 0; what < 3; what++) {
            due("FULL", told.x.list(what, 0x0803), Edge.FULL);
        }
        told.function(0).gives(3, 3, 3, 3, 3, 3, 3, 3).does("8*6; 23 0; 1").isTaken("takes eight, gives eight");
        due("the full one", told.x.check(0), -12);
        Told full = new Told().function(0).takes(3, 3, 3, 3, 3, 3, 3, 3).does("6; 45");
        for (int k = 0; k < 32; k++) {
            full.locals(1);
        }
        due("FULL", full.x.list(0, 1), Edge.FULL);
        due("FULL", full.x.list(2, 1), Edge.FULL);
        full.isTaken("forty locals");
        due("local 7", full.x.there(0, 7), 1);
        due("local 8", full.x.there(0, 8), 0);
        due("local 39", full.x.there(0, 39), 0);
        due("local 40", full.x.there(0, 40), Edge.BAD);
    }

    /** Promise 9: "An instruction more of the latest function: how many." */
    private static void instructionHowMany() {
        AbilityChecker x = new AbilityChecker();
        x.function(0);
        for (int k = 1; k <= 60; k++) {
            due("operation " + (k - 1), x.instruction(k - 1, -k, 7 * k), k);
        }
        due("any operands", x.instruction(2, Integer.MIN_VALUE, Integer.MAX_VALUE), 61);
        due("any operands", x.instruction(23, Integer.MAX_VALUE, Integer.MIN_VALUE), 62);
    }

    /** "BAD when operation is not 0 .. 59". */
    private static void instructionBad() {
        AbilityChecker x = new AbilityChecker();
        x.function(0);
        due("instruction(-1)", x.instruction(-1, 0, 0), Edge.BAD);
        due("instruction(60)", x.instruction(60, 0, 0), Edge.BAD);
        due("instruction(61)", x.instruction(61, 0, 0), Edge.BAD);
        for (int operation : FAR) {
            due("instruction(" + operation + ")", x.instruction(operation, 0, 0), Edge.BAD);
        }
        due("instruction(0)", x.instruction(0, 0, 0), 1);
        due("instruction(59)", x.instruction(59, 0, 0), 2);
    }

    /** "NO", as for list(); "BAD comes before NO". */
    private static void instructionNo() {
        AbilityChecker x = new AbilityChecker();
        x.structure(0);
        due("instruction(0)", x.instruction(0, 0, 0), Edge.NO);
        due("instruction(59)", x.instruction(59, 0, 0), Edge.NO);
        due("BAD before NO, below", x.instruction(-1, 0, 0), Edge.BAD);
        due("BAD before NO, above", x.instruction(60, 0, 0), Edge.BAD);
        x.function(0);
        due("then there is one, without any yet", x.instruction(59, 0, 0), 1);
    }

    /** "at most 256 INSTRUCTIONS"; "FULL when it has 256"; "BAD comes before .. FULL". */
    private static void instructionFull() {
        AbilityChecker x = new AbilityChecker();
        x.function(0);
        for (int k = 1; k <= 256; k++) {
            due("instruction no. " + k, x.instruction(k == 256 ? 1 : 35, 0, 0), k);
        }
        due("beyond 256", x.instruction(35, 0, 0), Edge.FULL);
        due("beyond 256, operation 0", x.instruction(0, 0, 0), Edge.FULL);
        due("beyond 256, operation 59", x.instruction(59, 0, 0), Edge.FULL);
        due("BAD before FULL, above", x.instruction(60, 0, 0), Edge.BAD);
        due("BAD before FULL, below", x.instruction(-1, 0, 0), Edge.BAD);
        due("all 256 stand", x.check(0), 0);
        x.function(0);
        due("the next one is not full", x.instruction(1, 0, 0), 1);
    }

    private static void instructionOfTheLatest() {
        Told told = new Told().function(0).does("35; 1").function(0).does("6; 6; 6; 45");
        due("the first", told.x.check(0), 0);
        due("the first one's heights", told.x.height(1), 0);
        due("the first one has two", told.x.height(2), Edge.BAD);
        told.isTaken("the second");
        due("the second one's heights", told.x.height(3), 3);
    }

    private static void instructionRefusedLeaves() {
        Told told = new Told().function(0);
        for (int k = 0; k < 255; k++) {
            due("BAD", told.x.instruction(k % 2 == 0 ? 60 : -1, 0, 0), Edge.BAD);
            if (k < 100) {
                due("instruction", told.x.instruction(35, 0, 0), k + 1);
            }
        }
        told.does("1").isTaken("BAD left no instruction");
        due("a hundred and one", told.x.height(100), 0);
        due("no more", told.x.height(101), Edge.BAD);
        Told full = new Told().function(0).does("255*35; 6");
        due("FULL", full.x.instruction(1, 0, 0), Edge.FULL);
        full.fails("FULL left the last", 11, 255);
        full = new Told().function(0).does("254*35; 6; 45");
        due("FULL", full.x.instruction(1, 0, 0), Edge.FULL);
        full.isTaken("FULL left the last");
        due("its height", full.x.height(255), 1);
    }
}
