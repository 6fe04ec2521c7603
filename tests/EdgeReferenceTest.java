/**
 * Edges of the heads on LOCALS (THERE, GONE), ORIGINS (LIVE, MEET, SOLE, INSIDE), and of what the operations say of
 * origins: a method for each sentence.
 */
public final class EdgeReferenceTest {
    private static final long INSIDE = Edge.INSIDE;
    /** What bars and what is barred is tried with a live reference at each of these places. */
    private static final int[] PLACES = {0, 1, 2, 3, 4};

    public static void main(String[] args) {
        localsFromZero();
        thereAtFirst();
        takenAsReference();
        takenIsJustThisOne();
        originsOfLocals();
        originsOfResources();
        noOriginsOfOthers();
        liveOnTheStack();
        liveInALocal();
        liveNoMore();
        meet();
        meetByOneOfMany();
        soleEachOther();
        soleOfThoseThatMeet();
        firstLocalReads();
        keptByCopyMoveSet();
        keptByFreeze();
        insideByFields();
        insideByElements();
        insideStays();
        callGivesInside();
        callGivesOriginsOfAll();
        callGivesOriginsOfWriting();
        callGivesOfNone();
        callTakesNoMore();
        pointsToWhatIsGone();
        Due.end();
    }

    private static Told of(long... takes) {
        return Edge.of(4, takes);
    }

    private static void origins(String what, Told told, int i, int k, long due) {
        Due.due(what + ": origins(" + i + ", " + k + ")", told.x.origins(i, k), due);
    }

    /** "LOCALS are numbered from 0, first what it takes." */
    private static void localsFromZero() {
        of(1, 2).locals(3, 4).gives(1, 2).does("12 0; 12 1; 1").isTaken("0 and 1 are taken");
        of(1, 2).locals(3, 4).does("6; 13 2; 7; 13 3; 1").isTaken("2 and 3 are further");
        of(1, 2).locals(3, 4).does("6; 13 3").fails("3 is a wide", 3, 1);
        of(1, 2).locals(3, 4).does("12 4").fails("4 is none", 16, 0);
        of(1, 2).locals(3, 4).does("12 -1").fails("-1 is none", 16, 0);
        of().locals(3).does("6; 13 0; 1").isTaken("nothing taken");
        of(3).does("12 0; 0; 1").isTaken("no further ones");
        of(3).does("12 1").fails("no further ones", 16, 0);
        of().does("12 0").fails("none at all", 16, 0);
        of(1, 1, 1, 1, 1, 1, 1, 2).locals(3).gives(2).does("12 7; 1").isTaken("7 is the eighth taken");
        of(1, 1, 1, 1, 1, 1, 1, 2).locals(3).gives(3).does("6; 13 8; 12 8; 1").isTaken("8 is the first further one");
    }

    /** "first those that it takes are there". */
    private static void thereAtFirst() {
        for (int takes = 0; takes <= 8; takes++) {
            Told told = new Told().function(0);
            for (int k = 0; k < takes; k++) {
                told.takes(3);
            }
            told.locals(3, 3).does("1").isTaken("takes " + takes);
            for (int k = 0; k < takes + 2; k++) {
                Due.due("there(0, " + k + ") of " + takes, told.x.there(0, k), k < takes ? 1 : 0);
            }
            Due.due("there beyond", told.x.there(0, takes + 2), -1);
        }
        of(Edge.BARE).does("1").fails("one that is there at first has to be dropped", 13, 0);
        of().locals(Edge.BARE).does("1").isTaken("one that is not has not");
    }

    /** "40 + k what was taken as a reference at k". */
    private static void takenAsReference() {
        for (int k = 0; k < 8; k++) {
            for (int lead = 8; lead <= 9; lead++) {
                Told told = new Told().function(0);
                for (int other = 0; other < 8; other++) {
                    told.takes(other == k ? Edge.led(lead, 3) : 3);
                }
                told.does("35; 1").isTaken("a reference at " + k);
                for (int other = 0; other < 8; other++) {
                    origins("at first", told, 0, other, other == k ? 1L << 40 + k : 0);
                    origins("then", told, 1, other, other == k ? 1L << 40 + k : 0);
                }
            }
        }
    }

    /** "(at instruction 0 just this one, not inside)". */
    private static void takenIsJustThisOne() {
        Told told = new Told().function(0);
        for (int k = 0; k < 8; k++) {
            told.takes(k % 2 == 0 ? 0x0903 : 0x0803);
        }
        told.does("1").isTaken("eight references");
        for (int k = 0; k < 8; k++) {
            origins("each its own", told, 0, k, 1L << 40 + k);
        }
        of(0x0903, 0x0803).does("11 1; 6; 11 0; 19; 0; 1").isTaken("two that are taken do not meet");
        of(0x0903, 0x0903).does("11 1; 20; 6; 11 0; 19; 0; 1").isTaken("two that are taken do not meet");
        of(0x0903).does("11 0; 6; 11 0; 19; 0; 1").isTaken("what is taken is not inside");
    }

    /** "k (0 .. 39) local k": by 14 and 15, "a reference with this bit, not inside". */
    private static void originsOfLocals() {
        for (int op = 14; op <= 15; op++) {
            for (int k = 0; k < 39; k++) {
                Told told = new Told().function(0);
                for (int other = 0; other < 40; other++) {
                    long type = other == 39 ? Edge.led(op - 6, 3) : 3;
                    if (other < 8) {
                        told.takes(type);
                    } else {
                        told.locals(type);
                    }
                }
                told.does("6; 13 " + k + "; " + op + " " + k + "; 13 39; 35; 1").isTaken("to local " + k);
                origins("to local " + k, told, 4, 39, 1L << k);
                origins("not yet", told, 3, 39, 0);
                origins("no reference", told, 4, k, 0);
            }
            Told last = new Told().function(0).takes(3, 3, 3, 3, 3, 3, 3, 3);
            for (int k = 8; k < 40; k++) {
                last.locals(k == 8 ? Edge.led(op - 6, 3) : 3);
            }
            last.does("6; 13 39; " + op + " 39; 13 8; 35; 1").isTaken("to local 39");
            origins("to local 39", last, 4, 8, 1L << 39);
        }
    }

    /** "48 + s % 15 the resources of structure s": 48 .. 62. */
    private static void originsOfResources() {
        int[] structures = {8, 14, 15, 16, 29, 30, 31};
        int[] due = {56, 62, 48, 49, 62, 48, 49};
        for (int k = 0; k < structures.length; k++) {
            int s = structures[k];
            Told told = of().locals(0x080600 + s).does("10; 50 " + s + "; 13 0; 35; 1").isTaken("resources of " + s);
            origins("resources of " + s, told, 3, 0, 1L << due[k]);
            told = of().locals(0x090600 + s).does("10; 51 " + s + "; 13 0; 35; 1").isTaken("resources of " + s);
            origins("resources of " + s + " to write", told, 3, 0, 1L << due[k]);
        }
        Told zero = new Told().structure(8).structure(8).function(4).locals(0x080600, 0x080601);
        zero.does("10; 50 0; 13 0; 10; 50 1; 13 1; 35; 1").isTaken("structures 0 and 1");
        origins("structure 0", zero, 6, 0, 1L << 48);
        origins("structure 1", zero, 6, 1, 1L << 49);
    }

    /** "ORIGINS of a reference": no other value has any, whatever it was made of. */
    private static void noOriginsOfOthers() {
        String[] puts = {"5", "6", "7", "8", "9", "10", "46", "11 1", "12 1", "15 0; 18", "11 2; 18", "6; 8; 21 7",
            "11 3; 22 7", "8; 23 0", "6; 6; 24", "8; 8; 29", "6; 5; 32", "8; 34", "6; 6; 36", "6; 6; 38", "6; 42",
            "6; 43", "6; 44", "10; 48 8", "10; 49 8", "6; 52 0 1", "52 0 0", "11 4; 53 0", "11 4; 57 0",
            "52 1 0; 59", "15 0; 18; 42", "15 0; 18; 6; 36"};
        for (String put : puts) {
            Told told = Edge.of(4, 1).gives(1).does("12 0; 1").function(4);
            told.takes(3, 3, 0x0903, 0x0607, 0x090703).does(put + "; 15 0" + Edge.ABORT);
            told.isTaken("no live one by " + put);
            Told called = Edge.of(4, 1).gives(1).does("12 0; 1").function(4);
            called.takes(3, 3, 0x0903, 0x0607, 0x090703).does("11 2; 15 0; 0; " + put + "; 8; 23 0" + Edge.ABORT);
            called.isTaken("none above 47 by " + put);
            Told sole = Edge.of(4, 1).gives(1).does("12 0; 1").function(4).takes(3, 3, 0x0903, 0x0607, 0x090703);
            sole.does(put + "; 6; 11 2; 19; 11 4; 57 0" + Edge.ABORT).isTaken("none to meet by " + put);
        }
        Told held = of(3, 3).locals(3).does("11 0; 13 2; 11 1; 13 0; 35; 1").isTaken("locals");
        for (int i = 0; i < 6; i++) {
            for (int k = 0; k < 3; k++) {
                origins("no reference", held, i, k, 0);
            }
        }
        Told given = of(3).gives(3).does("12 0; 1").function(4).takes(0x0903).locals(3);
        given.does("11 0; 18; 23 0; 13 1; 35; 1").isTaken("given");
        origins("no reference, given", given, 5, 1, 0);
    }

    /** "that is on the stack": wherever on it. */
    private static void liveOnTheStack() {
        for (int below = 0; below < 62; below++) {
            String code = Edge.times(below, "6") + "14 0; " + Edge.times(61 - below, "6");
            of(3).does(code + "12 0").fails("live with " + below + " below", 6, 62);
            of(3).does(code + "11 0" + Edge.ABORT).isTaken("it does not write, with " + below + " below");
            of(3).does(code.replace("14", "15") + "11 0").fails("it writes, with " + below + " below", 6, 62);
        }
        of(3).does("14 0; 12 0").fails("topmost", 6, 1);
        of(3).does("63*6; 15 0; 14 0").fails("the 64th", 6, 64);
        of(3).does("15 0; 63*6; 14 0").fails("the first of 64", 6, 64);
        of(3).does("14 0; 0; 6; 12 0" + Edge.ABORT).isTaken("its place has another value");
        of(3).does("6; 14 0; 0; 12 0" + Edge.ABORT).isTaken("above the stack");
        of(3).does("6; 15 0; 20; 0; 14 0; 12 0").fails("in its place again", 6, 5);
    }

    /** "or in a local that is there": whichever. */
    private static void liveInALocal() {
        for (int k = 1; k < 40; k++) {
            for (int lead = 8; lead <= 9; lead++) {
                String borrow = (lead == 8 ? "14 0; 13 " : "15 0; 13 ") + k;
                local(k, lead).does(borrow + "; 12 0").fails("in local " + k, 6, 2);
                local(k, lead).does(borrow + "; 15 0").fails("in local " + k, 6, 2);
                Told copies = local(k, lead).does(borrow + "; 11 0" + Edge.ABORT);
                if (lead == 8) {
                    copies.isTaken("it does not write, in local " + k);
                } else {
                    copies.fails("it writes, in local " + k, 6, 2);
                }
                local(k, lead).does(borrow + "; 12 " + k + "; 0; 12 0" + Edge.ABORT).isTaken("gone from local " + k);
            }
        }
    }

    /** Forty locals, the first a long, local k a reference. */
    private static Told local(int k, int lead) {
        Told told = new Told().function(0);
        for (int other = 0; other < 40; other++) {
            long type = other == k ? Edge.led(lead, 3) : 3;
            if (other < 8) {
                told.takes(type);
            } else {
                told.locals(type);
            }
        }
        return told;
    }

    private static void liveNoMore() {
        String[] ends = {"0", "18; 0", "53 0; 0", "6; 54 0; 0"};
        for (String end : ends) {
            of(0x0703).does("14 0; " + end + "; 12 0" + Edge.ABORT).isTaken("taken by " + end);
        }
        of(3).does("6; 15 0; 19; 12 0" + Edge.ABORT).isTaken("taken by 19");
        of(0x0703).does("15 0; 57 0; 12 0" + Edge.ABORT).isTaken("taken by 57");
        of(0x0703).does("15 0; 6; 56 0; 12 0" + Edge.ABORT).isTaken("taken by 56");
        of(0x0703).does("15 0; 6; 6; 58 0; 12 0" + Edge.ABORT).isTaken("taken by 58");
        Edge.of(4, 0x0803).does("6; 45").function(4).takes(3).does("14 0; 23 0; 12 0" + Edge.ABORT)
            .isTaken("taken by 23");
        of(3, 3).locals(0x0803).does("14 0; 13 2; 14 1; 13 2; 12 0" + Edge.ABORT).isTaken("another put over it");
        of(3, 3).locals(0x0803).does("14 0; 13 2; 14 1; 13 2; 12 1").fails("that other one lives", 6, 4);
        of(3, 3).locals(0x0803).does("14 0; 13 2; 12 2; 0; 35; 12 0" + Edge.ABORT).isTaken("gone");
        of(3, 1).locals(0x0803).does("14 0; 13 2; 11 1; 3 6; 12 2; 0; 12 0; 0; 1").isTaken("gone in one is not live");
    }

    /** "Two MEET when they have an origin in common": by 19, with a live one that reads. */
    private static void meet() {
        of(0x0903).does("11 0; 20; 6; 11 0; 19").fails("the same that was taken", 6, 4);
        of(0x0903, 0x0803).does("11 1; 6; 11 0; 19; 0; 1").isTaken("two that were taken");
        of(3, 3).does("14 1; 6; 15 0; 19; 0; 1").isTaken("two locals");
        of(3, 0x0803).does("11 1; 6; 15 0; 19; 0; 1").isTaken("a local and what was taken");
        of(3).does("10; 50 15; 6; 15 0; 19; 0; 1").isTaken("a local and resources");
        of(0x0607).does("15 0; 16 7 0; 6; 8; 21 7; 15 0").fails("a local and inside it: not even borrowed", 6, 5);
        of(0x090607).does("11 0; 16 7 0; 6; 8; 21 7; 11 0; 19").fails("what was taken and inside it", 6, 6);
        of(0x090607).does("11 0; 16 7 1; 6; 11 0; 17 7 0; 19").fails("two fields of one", 6, 5);
        of().does("10; 51 15; 10; 51 31; 17 15 0").fails("31 has no field", 3, 4);
        of().locals(0x09060f).does("10; 51 15; 13 0; 11 0; 20; 10; 21 15; 11 0; 19").fails("resources", 6, 8);
    }

    /** One origin in common of many is enough; none is not. */
    private static void meetByOneOfMany() {
        long[] takes = {1, 0x0903, 0x0903, 0x0903};
        String either = "11 0; 3 5; 11 1; 13 4; 2 7; 11 2; 13 4; ";
        of(takes).locals(0x0903).does(either + "6; 11 4; 19; 1").isTaken("two origins, both write");
        of(takes).locals(0x0903).does(either + "11 1; 20; 6; 11 4; 19").fails("the first of two", 6, 11);
        of(takes).locals(0x0903).does(either + "11 2; 20; 6; 11 4; 19").fails("the second of two", 6, 11);
        of(takes).locals(0x0903).does(either + "11 3; 20; 6; 11 4; 19; 0; 1").isTaken("none of two");
        of(takes).locals(0x0903).does(either + "11 4; 20; 6; 11 1; 19").fails("one of the other's two", 6, 11);
        of(takes).locals(0x0903).does(either + "11 4; 20; 6; 11 3; 19; 0; 1").isTaken("none of the other's two");
    }

    /** "each other live one that meets it writes, and is not inside". */
    private static void soleEachOther() {
        for (int place : PLACES) {
            String write = "; 6; 8; 21 7; 11 0; 19";
            sole("one that writes", place, "11 0", 0x090607, write, false);
            sole("one that reads", place, "11 0; 20", 0x080607, write, true);
            sole("one that writes, inside", place, "11 0; 17 7 0", 0x0903, write, true);
            sole("one that reads, inside", place, "11 0; 16 7 1", 0x0801, write, true);
            sole("another that reads", place, "11 1", 0x080607, write, false);
            sole("another inside", place, "11 1; 16 7 0", 0x0803, write, false);
        }
        of(0x0903).does("11 0; 11 0; 11 0; 20; 11 0; 6; 11 0; 19").fails("one of many", 6, 7);
        of(0x0903).does("11 0; 11 0; 11 0; 11 0; 6; 11 0; 19" + Edge.ABORT).isTaken("none of many");
        of(0x090607).does("11 0; 17 7 0; 13 1; 6; 12 1; 19; 1").locals(0x0903)
            .isTaken("that it is inside itself is free");
    }

    /** The other one lies at the bottom of the stack (0), higher (1), or in a local (2, 3, 4). */
    private static void sole(String what, int place, String other, long type, String write, boolean fails) {
        String keep = place == 0 ? "" : place == 1 ? "; 6; 6" : "; 13 " + place;
        String code = (place == 1 ? "6; " : "") + other + keep;
        Told told = of(0x090607, 0x080607).locals(type, type, type).does(code + write + Edge.ABORT);
        if (fails) {
            told.fails(what + " at " + place, 6, Edge.length(code + write) - 1);
        } else {
            told.isTaken(what + " at " + place);
        }
    }

    private static void soleOfThoseThatMeet() {
        of(0x0903, 0x0903).does("11 0; 20; 6; 11 1; 19; 0; 1").isTaken("the other has one that reads");
        of(0x0903, 0x0903).does("11 1; 11 0; 20; 6; 11 1; 19" + Edge.ABORT)
            .isTaken("one writes that meets, one reads that does not");
        of(0x0903, 0x0903).does("11 0; 11 1; 20; 6; 11 1; 19")
            .fails("one writes that does not meet, one reads that does", 6, 5);
    }

    /** The first local is asked like any other. */
    private static void firstLocalReads() {
        Told first = new Told().function(0).locals(0x0803, 3).does("6; 13 1; 14 1; 13 0; 15 1");
        first.fails("local 0 reads: 15", 6, 4);
        first = new Told().function(0).locals(0x0803, 3).does("6; 13 1; 14 1; 13 0; 14 1; 0; 11 1; 0; 1");
        first.isTaken("local 0 reads: 14 and 11 are free");
        Told sole = Edge.of(0).locals(0x0803, 3, 0x0903);
        sole.does("6; 13 1; 15 1; 13 2; 11 2; 20; 13 0; 6; 11 2; 19").fails("local 0 reads: 19", 6, 9);
        sole = Edge.of(0).locals(0x0903, 3, 0x0903);
        sole.does("6; 13 1; 15 1; 13 2; 11 2; 13 0; 6; 11 2; 19; 1").isTaken("local 0 writes: 19");
        sole = Edge.of(0).locals(0x0903, 0x0607, 0x090607);
        sole.does("6; 8; 21 7; 13 1; 15 1; 13 2; 11 2; 17 7 0; 13 0; 6; 8; 21 7; 11 2; 19")
            .fails("local 0 is inside: 19", 6, 13);
    }

    /** "(A reference keeps its origins and whether it is inside.)" */
    private static void keptByCopyMoveSet() {
        for (int inside = 0; inside <= 1; inside++) {
            String borrow = inside == 0 ? "14 0" : "14 0; 16 15 0";
            long type = inside == 0 ? 0x08060f : 0x0805;
            long due = 1 | (inside == 0 ? 0 : INSIDE);
            int at = inside;
            Told told = of(0x060f).locals(type, type, type).does(borrow + "; 13 1; 11 1; 13 2; 12 1; 13 3; 35; 1");
            told.isTaken("kept");
            origins("set", told, at + 2, 1, due);
            origins("copied: the first", told, at + 4, 1, due);
            origins("copied: the copy", told, at + 4, 2, due);
            origins("moved: the first is gone", told, at + 5, 1, 0);
            origins("moved", told, at + 6, 3, due);
            origins("moved: the copy", told, at + 6, 2, due);
        }
        Told own = of(0x0803).locals(0x0803).does("12 0; 13 1; 12 1; 13 0; 35; 1").isTaken("moved, and back");
        origins("moved", own, 2, 1, 1L << 40);
        origins("moved back", own, 4, 0, 1L << 40);
        origins("gone", own, 4, 1, 0);
        Told over = of(0x0803, 0x0803).does("11 1; 13 0; 35; 1").isTaken("put over");
        origins("before", over, 1, 0, 1L << 40);
        origins("only what was put", over, 2, 0, 1L << 41);
        origins("the other stays", over, 2, 1, 1L << 41);
        Told cleared = Edge.of(0, 0x080607).locals(0x0803).does("11 0; 16 7 0; 13 1; 35; 1").function(0).takes(0x0803)
            .locals(0x0803).does("35; 12 0; 13 1; 35; 1").isTaken("not inside");
        origins("not inside", cleared, 3, 1, 1L << 40);
    }

    /** 20: "one that does not write, else the same". */
    private static void keptByFreeze() {
        Told told = of(0x060f).locals(0x08060f, 0x0805);
        told.does("15 0; 20; 13 1; 12 1; 0; 15 0; 17 15 0; 20; 13 2; 35; 1").isTaken("20");
        origins("not inside", told, 3, 1, 1);
        origins("inside", told, 9, 2, 1 | INSIDE);
        Told taken = of(0x0903).locals(0x0803).does("11 0; 20; 13 1; 35; 1").isTaken("20 of what was taken");
        origins("taken", taken, 3, 1, 1L << 40);
        Told both = of(1, 0x0903, 0x0903).locals(0x0903, 0x0803);
        both.does("11 0; 3 5; 11 1; 13 3; 2 7; 11 2; 13 3; 11 3; 20; 13 4; 35; 1").isTaken("20 of two origins");
        origins("both", both, 10, 4, Edge.bits(41, 42));
    }

    /** 16, 17: "with the same origins, inside". */
    private static void insideByFields() {
        Told told = of(0x0607).locals(0x0803, 0x0901);
        told.does("14 0; 16 7 0; 13 1; 12 1; 0; 15 0; 17 7 1; 13 2; 35; 1").isTaken("fields");
        origins("16", told, 3, 1, 1 | INSIDE);
        origins("17", told, 8, 2, 1 | INSIDE);
        Told taken = of(0x090607).locals(0x0803, 0x0901).does("11 0; 16 7 0; 13 1; 11 0; 17 7 1; 13 2; 35; 1");
        taken.isTaken("fields of what was taken");
        origins("16", taken, 6, 1, Edge.bits(40, 63));
        origins("17", taken, 6, 2, Edge.bits(40, 63));
        origins("it is not itself", taken, 6, 0, Edge.bits(40));
        Told resource = of().locals(0x0805, 0x0905)
            .does("10; 50 15; 16 15 0; 13 0; 12 0; 0; 10; 51 15; 17 15 0; 13 1; 35; 1");
        resource.isTaken("fields of a resource");
        origins("16", resource, 4, 0, Edge.bits(48, 63));
        origins("17", resource, 10, 1, Edge.bits(48, 63));
    }

    /** 54, 55: "the same origins, inside". */
    private static void insideByElements() {
        Told told = of(0x0703).locals(0x0803, 0x0903);
        told.does("14 0; 6; 54 0; 13 1; 12 1; 0; 15 0; 6; 55 0; 13 2; 35; 1").isTaken("elements");
        origins("54", told, 4, 1, 1 | INSIDE);
        origins("55", told, 10, 2, 1 | INSIDE);
        Told taken = of(0x090703).locals(0x0803, 0x0903).does("11 0; 6; 54 0; 13 1; 11 0; 6; 55 0; 13 2; 35; 1");
        taken.isTaken("elements of what was taken");
        origins("54", taken, 8, 1, Edge.bits(40, 63));
        origins("55", taken, 8, 2, Edge.bits(40, 63));
        origins("it is not itself", taken, 8, 0, Edge.bits(40));
    }

    /** What is inside stays so, further inside. */
    private static void insideStays() {
        Told deep = new Told().structure(7, 3).structure(7, 0x0600).function(0).takes(0x090601)
            .locals(0x0903, 0x0803, 0x090600);
        deep.does("11 0; 17 1 0; 13 3; 11 3; 17 0 0; 13 1; 11 1; 20; 13 2; 35; 1").isTaken("a field of a field");
        origins("the field", deep, 9, 3, Edge.bits(40, 63));
        origins("its field", deep, 9, 1, Edge.bits(40, 63));
        origins("that does not write", deep, 9, 2, Edge.bits(40, 63));
        Told given = Edge.of(0, 0x0903).gives(0x0903).does("6; 45").function(0).takes(0x090607).locals(0x0903);
        given.does("11 0; 17 7 0; 23 0; 13 1; 35; 1").isTaken("given from inside");
        origins("given", given, 5, 1, Edge.bits(40, 63));
    }

    /** "It puts what that gives: references are inside": though what was taken is not. */
    private static void callGivesInside() {
        Told told = Edge.of(0, 0x0903).gives(0x0903).does("6; 45").function(0).takes(0x0903).locals(0x0903);
        told.does("12 0; 23 0; 13 1; 35; 1").isTaken("given");
        origins("inside", told, 4, 1, Edge.bits(40, 63));
        Edge.of(0, 0x0903).gives(0x0903).does("6; 45").function(0).takes(0x0903).does("11 0; 23 0; 6; 11 0; 19")
            .fails("what was given is inside, and bars", 6, 4);
        Edge.of(0, 0x0903).gives(0x0903).does("6; 45").function(0).takes(0x0903).does("6; 11 0; 23 0; 19; 1")
            .isTaken("what was given writes itself");
        Edge.of(0, 0x0903).gives(0x0903, 0x0903).does("6; 45").function(0).takes(0x0903).locals(0x0903)
            .does("11 0; 23 0; 13 1; 6; 11 1; 19").fails("two were given, both inside", 6, 5);
    }

    private static Told call(long[] takes, long[] gives) {
        return Edge.of(0, takes).gives(gives).does("6; 45").function(0);
    }

    /** "with the origins of all references taken". */
    private static void callGivesOriginsOfAll() {
        Told told = call(new long[] {0x0803, 3, 0x0903, 0x0803}, new long[] {0x0801});
        told.takes(0x0803, 0x0903, 3, 3).locals(0x0801);
        told.does("11 0; 6; 11 1; 14 3; 23 0; 13 4; 35; 1").isTaken("of all");
        origins("of all", told, 6, 4, Edge.bits(40, 41, 3, 63));
        Told eight = call(new long[] {0x0803, 0x0803, 0x0803, 0x0803, 0x0803, 0x0803, 0x0803, 0x0803},
            new long[] {0x0805});
        eight.takes(0x0803, 0x0803, 0x0803, 0x0803, 0x0803, 0x0803, 0x0803, 0x0803).locals(0x0805);
        eight.does("11 7; 11 6; 11 5; 11 4; 11 3; 11 2; 11 1; 11 0; 23 0; 13 8; 35; 1").isTaken("of eight");
        origins("of eight", eight, 10, 8, Edge.bits(40, 41, 42, 43, 44, 45, 46, 47, 63));
        Told resource = Edge.of(0, 0x080608).gives(0x0803).does("6; 45").function(4).locals(0x0803);
        resource.does("10; 50 8; 23 0; 13 0; 35; 1").isTaken("of a resource");
        origins("of a resource", resource, 4, 0, Edge.bits(56, 63));
    }

    /** "(for a writing one: of the writing ones)". */
    private static void callGivesOriginsOfWriting() {
        Told told = call(new long[] {0x0803, 0x0903, 3, 0x0903}, new long[] {0x0905, 0x0805});
        told.takes(0x0803, 0x0903, 3, 0x0903).locals(0x0905, 0x0805);
        told.does("11 0; 11 1; 6; 11 3; 23 0; 13 5; 13 4; 35; 1").isTaken("both kinds");
        origins("of the writing ones", told, 7, 4, Edge.bits(41, 43, 63));
        origins("of all", told, 7, 5, Edge.bits(40, 41, 43, 63));
        Told last = call(new long[] {0x0803, 0x0803, 0x0803, 0x0803, 0x0803, 0x0803, 0x0803, 0x0903},
            new long[] {0x0903});
        last.takes(0x0803, 0x0903).locals(0x0903).does("7*11 0; 11 1; 23 0; 13 2; 35; 1");
        last.isTaken("the eighth writes");
        origins("of the eighth", last, 10, 2, Edge.bits(41, 63));
        Told first = call(new long[] {0x0903, 0x0803}, new long[] {0x0903}).takes(0x0803, 0x0903).locals(0x0903);
        first.does("11 1; 11 0; 23 0; 13 2; 35; 1").isTaken("the first writes");
        origins("of the first", first, 4, 2, Edge.bits(41, 63));
    }

    /** Of no references taken, or of no writing ones: no origins, but inside. */
    private static void callGivesOfNone() {
        Told told = call(new long[] {3}, new long[] {0x0903, 0x0803}).locals(0x0903, 0x0803);
        told.does("6; 23 0; 13 1; 13 0; 35; 1").isTaken("of none");
        origins("writing", told, 4, 0, INSIDE);
        origins("reading", told, 4, 1, INSIDE);
        told = call(new long[] {0x0803}, new long[] {0x0903, 0x0803}).takes(0x0803).locals(0x0903, 0x0803);
        told.does("11 0; 23 0; 13 2; 13 1; 35; 1").isTaken("of no writing one");
        origins("writing", told, 4, 1, INSIDE);
        origins("reading", told, 4, 2, Edge.bits(40, 63));
        call(new long[] {3}, new long[] {0x0903}).gives(0x0903).does("6; 23 0; 1").isTaken("it may be given");
        call(new long[] {0x0803}, new long[] {0x0903, 0x0903}).takes(0x0803)
            .does("6; 11 0; 23 0; 0; 19; 1").isTaken("it meets none");
    }

    /** What is given has nothing of an earlier call's. */
    private static void callTakesNoMore() {
        Told told = Edge.of(0, 0x0803, 0x0803).does("6; 45").function(0).takes(3).gives(0x0803)
            .does("6; 45").function(0);
        told.takes(0x0803, 0x0803).locals(0x0803).does("11 0; 11 1; 23 0; 6; 23 1; 13 2; 35; 1")
            .isTaken("one after another");
        origins("of none", told, 6, 2, INSIDE);
        Told writes = Edge.of(0, 0x0803, 0x0803).does("6; 45").function(0).takes(0x0903).does("6; 45").function(0);
        writes.takes(0x0903).does("11 0; 20; 11 0; 20; 23 0; 11 0; 23 1; 1").isTaken("one after another");
    }

    /**
     * A live one may have the bit of a local that is gone where two ways come together: 6 all the same, but 5 first.
     */
    private static void pointsToWhatIsGone() {
        long[] takes = {1, 3, 3};
        String ways = "11 0; 3 7; 12 1; 0; 14 2; 13 3; 2 9; 14 1; 13 3; ";
        Told told = of(takes).locals(0x0803).does(ways + "35; 1").isTaken("gone on one way, pointed to on the other");
        Due.due("local 1 is gone", told.x.there(9, 1), 0);
        origins("it has its bit", told, 9, 3, Edge.bits(1, 2));
        of(takes).locals(0x0803).does(ways + "12 1").fails("12: 5 before 6", 5, 9);
        of(takes).locals(0x0803).does(ways + "14 1").fails("14: 5", 5, 9);
        of(takes).locals(0x0803).does(ways + "15 1").fails("15: 5 before 6", 5, 9);
        of(takes).locals(0x0803).does(ways + "11 1").fails("11: 5", 5, 9);
        of(takes).locals(0x0803).does(ways + "6; 13 1").fails("13: 6, though it is gone", 6, 10);
        of(takes).locals(0x0803).does(ways + "12 3; 0; 6; 13 1; 12 1; 0; 1").isTaken("13: no live one");
        of(takes).locals(0x0803).does(ways + "11 2; 0; 12 2").fails("12 of the other", 6, 11);
    }
}
