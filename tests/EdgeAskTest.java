/**
 * Edges of promises 10 to 14: what check, place, height, there and origins answer, and when; a method for each
 * sentence.
 */
public final class EdgeAskTest {
    private static final int[] NONE = {-1, -2, -256, Integer.MIN_VALUE, 256, 512, Integer.MAX_VALUE};

    public static void main(String[] args) {
        checkTakes();
        checkNone();
        checkWithoutInstructions();
        checkNoneForgets();
        checkIsAnew();
        checkDoesNotFollowCalls();
        placeFirstAndLast();
        placeNo();
        placeOfTheLatest();
        placeStays();
        heights();
        heightNone();
        heightFirstAndLast();
        heightAfterAFault();
        heightGotMore();
        heightGotWhatWasRefused();
        heightOthersGot();
        heightOfTheLatest();
        theres();
        thereNone();
        originsTold();
        originsInside();
        originsNone();
        askingChangesNothing();
        toldOfOneObject();
        Due.end();
    }

    private static void due(String what, long got, long want) {
        Due.due(what, got, want);
    }

    private static Told of(long... takes) {
        return Edge.of(4, takes);
    }

    /** Promise 10: "LOOKS at function f: 0, or -why". */
    private static void checkTakes() {
        Told told = new Told();
        for (int f = 0; f < 64; f++) {
            told.function(0).does(f % 3 == 0 ? "1" : f % 3 == 1 ? "35" : "0");
        }
        for (int f = 0; f < 64; f++) {
            due("check(" + f + ")", told.x.check(f), f % 3 == 0 ? 0 : f % 3 == 1 ? -11 : -1);
        }
        for (int f = 63; f >= 0; f--) {
            due("check(" + f + ") again", told.x.check(f), f % 3 == 0 ? 0 : f % 3 == 1 ? -11 : -1);
        }
    }

    /** "BAD - 100 when there is none such". */
    private static void checkNone() {
        AbilityChecker x = new AbilityChecker();
        due("none yet", x.check(0), -101);
        for (int f = 0; f < 64; f++) {
            x.function(0);
            x.instruction(1, 0, 0);
            due("the last", x.check(f), 0);
            due("the first that is not", x.check(f + 1), -101);
            due("-1", x.check(-1), -101);
        }
        for (int f : NONE) {
            due("check(" + f + ")", x.check(f), -101);
        }
        due("the first yet", x.check(0), 0);
    }

    /** "(or it has no instructions)". */
    private static void checkWithoutInstructions() {
        Told told = new Told().function(0);
        due("without any", told.x.check(0), -101);
        told.takes(3).gives(3).locals(3);
        due("without any, with lists", told.x.check(0), -101);
        told.does("12 0");
        due("with one", told.x.check(0), -11);
        told.does("1");
        due("with two", told.x.check(0), 0);
        told.function(0);
        due("the next without any", told.x.check(1), -101);
        due("the first with two", told.x.check(0), 0);
    }

    /** "(Then place() is NO, and no function was looked at.)" */
    private static void checkNoneForgets() {
        int[] none = {-1, 1, 2, 64, Integer.MIN_VALUE, Integer.MAX_VALUE};
        for (int f : none) {
            Told told = of(0x0903).does("6; 45").function(0);
            due("taken", told.x.check(0), 0);
            isTold("taken", told, true);
            due("check(" + f + ")", told.x.check(f), -101);
            due("place", told.x.place(), Edge.NO);
            isTold("none looked at", told, false);
            due("there(0, 0)", told.x.there(0, 0), Edge.BAD);
            due("height(0)", told.x.height(0), Edge.BAD);
            due("taken again", told.x.check(0), 0);
            isTold("taken again", told, true);
            Told fault = of().does("35; 0").function(0);
            due("a fault", fault.x.check(0), -1);
            due("its place", fault.x.place(), 1);
            due("check(" + f + ")", fault.x.check(f), -101);
            due("no place", fault.x.place(), Edge.NO);
        }
    }

    /** What has come since counts when one looks again. */
    private static void checkIsAnew() {
        Told told = Edge.of(0).does("21 32").fails("all 32 are there", 16, 0);
        told = new Told().function(0).does("52 1 0; 0; 21 1; 0; 23 1; 1").fails("no element type", 16, 0);
        told.element(3).fails("one element type", 16, 0).element(3).fails("no structure", 16, 2);
        told.structure(2).fails("one structure", 16, 2).structure(2).fails("no function", 16, 4);
        due("the next function", told.x.function(0), 1);
        due("now taken", told.x.check(0), 0);
        told.structure(2);
        told = new Told().structure(7).function(0).does("21 0; 22 0; 1").isTaken("without fields");
        due("a field", told.x.field(3), 1);
        told.fails("with a field", 1, 0);
        told = new Told().function(0).does("23 0; 1").isTaken("takes nothing").takes(3).fails("takes a long", 1, 0);
        told = new Told().function(0).does("6; 1").fails("gives nothing", 12, 1).gives(3).isTaken("gives a long");
        told = new Told().function(0).does("11 0; 0; 1").fails("no local", 16, 0).locals(3).fails("a gone one", 5, 0);
        told.takes(3).isTaken("one that is there");
        told = new Told().function(0).does("35").fails("no next", 11, 0).does("1").isTaken("a next");
    }

    /** A function that calls one with a fault has none itself: only what that takes and gives is asked. */
    private static void checkDoesNotFollowCalls() {
        Told told = Edge.of(0).does("0; 24; 11 9").function(0).does("23 0; 1").isTaken("one with faults is called");
        due("that one", told.x.check(0), -1);
        new Told().function(0).does("23 0; 23 0; 2 0").isTaken("one that calls itself for ever");
    }

    /** Promise 11: "Where the latest check() found its fault". */
    private static void placeFirstAndLast() {
        of().does("0").fails("at 0", 1, 0);
        of().does("35; 0").fails("at 1", 1, 1);
        of().does("254*35; 0; 1").fails("at 254", 1, 254);
        of().does("255*35; 0").fails("at 255", 1, 255);
        of().does("1; 0").fails("behind the end", 10, 1);
    }

    /** "NO when it found none, or there was none". */
    private static void placeNo() {
        AbilityChecker x = new AbilityChecker();
        due("there was none", x.place(), Edge.NO);
        x.function(0);
        x.instruction(0, 0, 0);
        due("there was none yet", x.place(), Edge.NO);
        due("a fault", x.check(0), -1);
        due("at 0", x.place(), 0);
        x.function(0);
        x.instruction(1, 0, 0);
        due("no fault", x.check(1), 0);
        due("it found none", x.place(), Edge.NO);
        due("none such", x.check(2), -101);
        due("it found none", x.place(), Edge.NO);
    }

    private static void placeOfTheLatest() {
        Told told = of().does("35; 35; 0").function(0).does("1").function(0).does("35; 0");
        int[] look = {0, 1, 2, 0, 3, 2, 1, 0};
        int[] place = {2, -2, 1, 2, -2, 1, -2, 2};
        for (int k = 0; k < look.length; k++) {
            told.x.check(look[k]);
            due("place", told.x.place(), place[k]);
            due("place again", told.x.place(), place[k]);
        }
    }

    /** Nothing but check() changes it. */
    private static void placeStays() {
        Told told = of().does("35; 0").fails("a fault", 1, 1);
        told.takes(3).gives(3).locals(3).does("1").element(3).function(0).does("1");
        due("place stays", told.x.place(), 1);
        told.x.height(0);
        told.x.there(0, 0);
        told.x.origins(0, 0);
        told.x.instruction(60, 0, 0);
        told.x.list(3, 3);
        due("place stays", told.x.place(), 1);
        Told taken = of().does("1").isTaken("none");
        taken.does("0").takes(3);
        due("none stays", taken.x.place(), Edge.NO);
        taken.fails("a fault now", 10, 1);
    }

    /** Promise 12: "How many values are on the stack when one comes to instruction i". */
    private static void heights() {
        Told told = of(0x0607).does("12 0; 22 7; 0; 6; 24; 5; 32; 63*6; 63*24; 0; 1").isTaken("heights");
        int[] due = {0, 1, 2, 1, 2, 1, 2, 1};
        for (int i = 0; i < due.length; i++) {
            due("height(" + i + ")", told.x.height(i), due[i]);
        }
        for (int k = 0; k < 63; k++) {
            due("up", told.x.height(7 + k), 1 + k);
            due("down", told.x.height(70 + k), 64 - k);
        }
        due("one left", told.x.height(133), 1);
        due("none left", told.x.height(134), 0);
        due("behind", told.x.height(135), Edge.BAD);
    }

    /** "BAD when there is none such." */
    private static void heightNone() {
        Told told = of(3).does("6; 45").isTaken("two");
        due("height(-1)", told.x.height(-1), Edge.BAD);
        due("height(0)", told.x.height(0), 0);
        due("height(1)", told.x.height(1), 1);
        due("height(2)", told.x.height(2), Edge.BAD);
        for (int i : NONE) {
            due("height(" + i + ")", told.x.height(i), Edge.BAD);
        }
        AbilityChecker x = new AbilityChecker();
        due("nothing at all", x.height(0), Edge.BAD);
        x.function(0);
        x.instruction(1, 0, 0);
        due("not looked at yet", x.height(0), Edge.BAD);
        x.check(0);
        due("looked at", x.height(0), 0);
    }

    private static void heightFirstAndLast() {
        Told told = of().does("254*35; 6; 45").isTaken("256");
        due("height(0)", told.x.height(0), 0);
        due("height(254)", told.x.height(254), 0);
        due("height(255)", told.x.height(255), 1);
        due("height(256)", told.x.height(256), Edge.BAD);
        told = of().does("1").isTaken("one");
        due("height(0)", told.x.height(0), 0);
        due("height(1)", told.x.height(1), Edge.BAD);
    }

    /** "if it had no fault". */
    private static void heightAfterAFault() {
        String[] faults = {"0; 1", "6; 6; 1", "35", "6; 0; 2 1", "1; 1", "6; 6; 6; 45; 1"};
        for (String fault : faults) {
            Told told = of(0x0903).does(fault);
            due("a fault", told.x.check(0) < 0 ? 1 : 0, 1);
            for (int i = 0; i < 5; i++) {
                due("height(" + i + ")", told.x.height(i), Edge.BAD);
                due("there(" + i + ", 0)", told.x.there(i, 0), Edge.BAD);
                due("origins(" + i + ", 0)", told.x.origins(i, 0), 0);
            }
        }
        Told both = of(0x0903).does("6; 45").function(0).takes(0x0903).does("6; 45; 1");
        due("taken", both.x.check(0), 0);
        isTold("taken", both, true);
        due("a fault of another", both.x.check(1), -10);
        isTold("a fault", both, false);
        due("taken again", both.x.check(0), 0);
        isTold("taken again", both, true);
    }

    private static Told looked() {
        return of(0x0903).does("6; 45").isTaken("looked at");
    }

    private static void isTold(String what, Told told, boolean isTold) {
        due(what + ": height(1)", told.x.height(1), isTold ? 1 : Edge.BAD);
        due(what + ": there(1, 0)", told.x.there(1, 0), isTold ? 1 : Edge.BAD);
        due(what + ": origins(1, 0)", told.x.origins(1, 0), isTold ? 1L << 40 : 0);
    }

    /** "(and got nothing more since)": neither value taken or given, local, nor instruction. */
    private static void heightGotMore() {
        for (int what = 0; what < 3; what++) {
            Told told = looked();
            due("list " + what, told.x.list(what, 3), what == 0 ? 2 : 1);
            isTold("got by list " + what, told, false);
            due("height(0)", told.x.height(0), Edge.BAD);
            due("there(0, 0)", told.x.there(0, 0), Edge.BAD);
            due("origins(0, 0)", told.x.origins(0, 0), 0);
            told.isTaken("looked at again");
            isTold("looked at again", told, true);
        }
        Told told = looked().does("45");
        isTold("got an instruction", told, false);
        told.fails("looked at again", 10, 2);
        isTold("a fault", told, false);
    }

    private static void heightGotWhatWasRefused() {
        Told told = looked();
        due("no TYPE", told.x.list(0, 0), Edge.BAD);
        due("no what", told.x.list(3, 3), Edge.BAD);
        due("no what", told.x.list(-1, 3), Edge.BAD);
        due("no operation", told.x.instruction(60, 0, 0), Edge.BAD);
        due("no operation", told.x.instruction(-1, 0, 0), Edge.BAD);
        isTold("what is BAD is not got", told, true);
        Told full = new Told().function(0).takes(0x0903, 3, 3, 3, 3, 3, 3, 3).gives(3, 3, 3, 3, 3, 3, 3, 3);
        for (int k = 0; k < 32; k++) {
            full.locals(3);
        }
        full.does("6; 45").isTaken("full lists");
        for (int what = 0; what < 3; what++) {
            due("list " + what, full.x.list(what, 3), Edge.FULL);
        }
        isTold("what is FULL is not got", full, true);
        full = new Told().function(0).takes(0x0903).does("6; 0; 35; 251*35; 6; 45").isTaken("full");
        due("instruction", full.x.instruction(1, 0, 0), Edge.FULL);
        isTold("what is FULL is not got", full, true);
        due("the last", full.x.height(255), 1);
    }

    /** "(What others got does not matter.)" */
    private static void heightOthersGot() {
        Told told = looked();
        told.function(0);
        isTold("another function came", told, true);
        told.takes(3).gives(3).locals(3, 3).does("6; 6; 6; 45");
        isTold("another function got all", told, true);
        due("its height", told.x.height(2), Edge.BAD);
        due("its locals", told.x.there(0, 1), Edge.BAD);
        Told first = new Told().function(0).takes(0x0903).does("6; 45").function(0).takes(3, 3).does("35; 1");
        due("the first", first.x.check(0), 0);
        first.takes(3).gives(3).locals(3).does("1");
        isTold("the latest got more, not the first", first, true);
        Told structures = new Told().structure(7).function(0).takes(0x0903).does("6; 45").isTaken("before");
        structures.structure(3, 3, 3).element(3);
        due("a field", structures.x.field(3), 3);
        isTold("structures and element types came", structures, true);
    }

    /** "of the function looked at last". */
    private static void heightOfTheLatest() {
        Told told = new Told().function(0).takes(3).does("6; 6; 6; 45").function(0).takes(0x0803, 3).does("12 0; 0; 1");
        int[][] heights = {{0, 1, 2, 3, -1}, {0, 1, 0, -1, -1}};
        for (int look = 0; look < 4; look++) {
            int f = look % 2;
            due("check", told.x.check(f), 0);
            for (int i = 0; i < 5; i++) {
                due("height(" + i + ") of " + f, told.x.height(i), heights[f][i]);
                int second = i < 3 + (f == 0 ? 1 : 0) ? f == 0 ? -1 : 1 : -1;
                due("there(" + i + ", 1) of " + f, told.x.there(i, 1), second);
                due("origins(" + i + ", 0) of " + f, told.x.origins(i, 0), f == 1 && i == 0 ? 1L << 40 : 0);
            }
        }
    }

    /** Promise 13: "Whether local k is there then: 1 or 0". */
    private static void theres() {
        Told told = of(3, 0x0600, 0x0803).locals(3, 0x0600).does("12 0; 13 3; 12 1; 13 4; 11 2; 13 2; 6; 45")
            .isTaken("locals");
        int[][] due = {{1, 0, 0, 0, 0, 0, 0, 0}, {1, 1, 1, 0, 0, 0, 0, 0}, {1, 1, 1, 1, 1, 1, 1, 1},
            {0, 0, 1, 1, 1, 1, 1, 1}, {0, 0, 0, 0, 1, 1, 1, 1}};
        for (int k = 0; k < due.length; k++) {
            for (int i = 0; i < due[k].length; i++) {
                due("there(" + i + ", " + k + ")", told.x.there(i, k), due[k][i]);
            }
        }
        Told all = new Told().function(0).takes(3, 3, 3, 3, 3, 3, 3, 3);
        for (int k = 0; k < 32; k++) {
            all.locals(3);
        }
        for (int k = 8; k < 40; k++) {
            all.does("6; 13 " + k);
        }
        all.does("12 0; 12 7; 12 39; 3*0; 1").isTaken("forty");
        for (int k = 0; k < 40; k++) {
            due("at first", all.x.there(0, k), k < 8 ? 1 : 0);
            due("all set", all.x.there(64, k), 1);
            due("three gone", all.x.there(68, k), k == 0 || k == 7 || k == 39 ? 0 : 1);
        }
    }

    /** "BAD when there is none such": no such local, no such instruction, nothing looked at. */
    private static void thereNone() {
        Told told = of(3).locals(3).does("35; 1").isTaken("two locals");
        due("there(0, -1)", told.x.there(0, -1), Edge.BAD);
        due("there(0, 0)", told.x.there(0, 0), 1);
        due("there(0, 1)", told.x.there(0, 1), 0);
        due("there(0, 2)", told.x.there(0, 2), Edge.BAD);
        due("there(-1, 0)", told.x.there(-1, 0), Edge.BAD);
        due("there(1, 1)", told.x.there(1, 1), 0);
        due("there(2, 0)", told.x.there(2, 0), Edge.BAD);
        int[] none = {40, 41, 63, 64, 65, 128, -40, -63, -64, 256, Integer.MIN_VALUE, Integer.MAX_VALUE};
        for (int k : none) {
            due("there(0, " + k + ")", told.x.there(0, k), Edge.BAD);
            due("there(" + k + ", 0)", told.x.there(k, 0), Edge.BAD);
            due("there(" + k + ", " + k + ")", told.x.there(k, k), Edge.BAD);
            due("origins(0, " + k + ")", told.x.origins(0, k), 0);
            due("origins(" + k + ", 0)", told.x.origins(k, 0), 0);
            due("origins(" + k + ", " + k + ")", told.x.origins(k, k), 0);
        }
        Told bare = of().does("1").isTaken("no locals");
        due("there(0, 0)", bare.x.there(0, 0), Edge.BAD);
        due("origins(0, 0)", bare.x.origins(0, 0), 0);
    }

    /** Promise 14: "The ORIGINS of the reference in local k then". */
    private static void originsTold() {
        Told told = of(0x0803, 3).locals(0x0803).does("35; 14 1; 13 2; 12 0; 13 2; 35; 1").isTaken("origins");
        long[] first = {1L << 40, 1L << 40, 1L << 40, 1L << 40, 0, 0, 0, 0};
        long[] third = {0, 0, 0, 2, 2, 1L << 40, 1L << 40, 0};
        for (int i = 0; i < first.length; i++) {
            due("origins(" + i + ", 0)", told.x.origins(i, 0), first[i]);
            due("origins(" + i + ", 1)", told.x.origins(i, 1), 0);
            due("origins(" + i + ", 2)", told.x.origins(i, 2), third[i]);
        }
    }

    /** "(bit 63 besides when it is inside)". */
    private static void originsInside() {
        Told told = of(0x090607).locals(0x0903).does("11 0; 17 7 0; 13 1; 35; 1").isTaken("inside");
        due("not inside", told.x.origins(4, 0), 1L << 40);
        due("inside", told.x.origins(4, 1), 1L << 40 | Long.MIN_VALUE);
        due("below 0", told.x.origins(4, 1) < 0 ? 1 : 0, 1);
        Told highest = of().locals(0x08061d, 0x08061e).does("10; 50 29; 13 0; 10; 50 30; 13 1; 35; 1")
            .isTaken("48 and 62");
        due("62 is below 63", highest.x.origins(7, 0), 1L << 62);
        due("48", highest.x.origins(7, 1), 1L << 48);
    }

    /**
     * "0 when it is none, or gone (also when nothing is looked at there, or there is no such local or instruction)".
     */
    private static void originsNone() {
        Told told = of(3, 0x0903).does("12 1; 0; 1").isTaken("gone");
        due("none", told.x.origins(0, 0), 0);
        due("there", told.x.origins(0, 1), 1L << 41);
        due("gone", told.x.origins(1, 1), 0);
        due("no such local", told.x.origins(0, 2), 0);
        due("no such local", told.x.origins(0, -1), 0);
        due("no such instruction", told.x.origins(3, 1), 0);
        due("no such instruction", told.x.origins(-1, 1), 0);
        AbilityChecker x = new AbilityChecker();
        due("nothing at all", x.origins(0, 0), 0);
        x.function(0);
        x.list(0, 0x0903);
        x.instruction(1, 0, 0);
        due("not looked at yet", x.origins(0, 0), 0);
        x.check(0);
        due("looked at", x.origins(0, 0), 1L << 40);
        x.check(-1);
        due("looked at no more", x.origins(0, 0), 0);
    }

    private static void askingChangesNothing() {
        Told told = looked();
        for (int k = 0; k < 3; k++) {
            isTold("asked " + k, told, true);
            due("place", told.x.place(), Edge.NO);
            told.x.height(9);
            told.x.there(9, 9);
            told.x.origins(9, 9);
            told.x.bears(9);
            told.x.abilities(9);
        }
        told.isTaken("asked, and looked at again");
    }

    private static void toldOfOneObject() {
        Told one = looked();
        Told other = of().does("0").fails("a fault", 1, 0);
        isTold("one", one, true);
        due("one's place", one.x.place(), Edge.NO);
        isTold("the other", other, false);
        due("the other's place", other.x.place(), 0);
    }
}
