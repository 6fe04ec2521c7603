/** Promises 10 and 11: the faults that hang on abilities, origins, the way one comes, and their order. */
public final class FaultTest {
    private static final long S0 = 0x0600;
    private static final long NONE = 0x0602;
    private static final long DROPS = 0x0604;
    private static final long COPIES = 0x0605;
    private static final String ABORT = "; 6; 45";

    public static void main(String[] args) {
        whichFunction();
        abilities();
        gone();
        borrowedLocals();
        sole();
        calls();
        callsAndOrigins();
        resources();
        returning();
        branchesAndStack();
        comingAfter();
        comingBack();
        notComeTo();
        names();
        Due.end();
    }

    private static Told world(int flags) {
        return OperationTest.world().function(flags);
    }

    private static void whichFunction() {
        Told told = world(0).does("6");
        int[] none = {-1, 2, 64, Integer.MIN_VALUE, Integer.MAX_VALUE};
        for (int f : none) {
            told.fails("a fault first", 11, 0);
            Due.due("check(" + f + ")", told.x.check(f), -101);
            Due.due("place then", told.x.place(), -2);
        }
        told.function(0);
        Due.due("check without instructions", told.x.check(2), -101);
        Due.due("check(0)", told.x.check(0), 0);
        Due.due("check(1)", told.x.check(1), -11);
        told.does("1");
        Due.due("place is that of the latest check", told.x.place(), 0);
        told.isTaken("the latest");
        Due.due("check(1) again", told.x.check(1), -11);
    }

    private static void abilities() {
        world(0).does("21 2; 0").fails("drop without drop", 4, 1);
        world(0).takes(COPIES).does("12 0; 0").fails("drop what copies", 4, 1);
        world(0).takes(DROPS).does("12 0; 0; 1").isTaken("drop with drop");
        world(0).takes(DROPS).does("11 0").fails("copy without copy", 4, 0);
        world(0).takes(COPIES).does("11 0" + ABORT).isTaken("copy with copy");
        world(0).takes(0x070605).does("11 0" + ABORT).isTaken("copy a vector of it");
        world(0).takes(COPIES).does("12 0; 13 0" + ABORT).isTaken("put back without drop");
        world(0).takes(COPIES).does("11 0; 13 0").fails("put over without drop", 4, 1);
        world(0).takes(DROPS, DROPS).does("12 0; 13 1; 1").isTaken("put over with drop");
        world(0).takes(0x080604).does("12 0; 18").fails("read without copy", 4, 1);
        world(0).takes(0x080605).does("12 0; 18" + ABORT).isTaken("read with copy");
        world(0).takes(0x090605, COPIES).does("12 1; 12 0; 19").fails("write without drop", 4, 2);
        world(0).takes(0x090604, DROPS).does("12 1; 12 0; 19; 1").isTaken("write with drop");
        for (int op = 36; op <= 37; op++) {
            world(0).takes(COPIES).does("11 0; 11 0; " + op).fails("compare without drop", 4, 2);
            world(0).takes(DROPS, DROPS).does("12 0; 12 1; " + op + "; 0; 1").isTaken("compare with drop");
        }
        world(4).takes(S0).does("12 0; 47 0").fails("no key", 4, 1);
        for (int op = 48; op <= 51; op++) {
            world(4).does("10; " + op + " 0").fails("no key by " + op, 4, 1);
            world(4).does("10; " + op + " 16" + ABORT).isTaken("key alone by " + op);
        }
        world(4).takes(0x0610).does("12 0; 47 16; 1").isTaken("key alone by 47");
    }

    private static void gone() {
        int[] ops = {11, 12, 14, 15};
        for (int op : ops) {
            world(0).locals(3).does(op + " 0").fails("never there by " + op, 5, 0);
            world(0).takes(3).does("12 0; " + op + " 0").fails("moved, by " + op, 5, 1);
            world(0).locals(DROPS, 0x0803).does(op + " 0").fails("5 before others, by " + op, 5, 0);
            world(0).locals(DROPS, 0x0803).does(op + " 1").fails("5 before 3, by " + op, 5, 0);
            world(0).locals(3).does("6; 13 0; " + op + " 0" + ABORT).isTaken("put there, then " + op);
        }
        world(0).takes(3).does("11 0; 11 0" + ABORT).isTaken("a copied one is there");
        world(0).takes(0x0803).does("14 0").fails("a reference is not borrowed", 3, 0);
        world(0).takes(0x0903).does("15 0").fails("a reference is not borrowed to write", 3, 0);
    }

    private static void borrowedLocals() {
        String[] borrow = {"14 0", "15 0", "14 0; 16 0 0", "15 0; 17 0 0", "15 0; 20", "15 0; 16 0 0"};
        boolean[] writes = {false, true, false, true, false, false};
        long[] types = {0x080600, 0x090600, 0x0803, 0x0903, 0x080600, 0x0803};
        for (int k = 0; k < borrow.length; k++) {
            String[] live = {borrow[k], borrow[k] + "; 13 1", borrow[k] + "; 13 1; 11 1"};
            for (String one : live) {
                int at = one.split(";").length;
                for (int op = 11; op <= 15; op++) {
                    boolean free = !writes[k] && (op == 11 || op == 14);
                    String use = op == 13 ? "6; 8; 21 0; 13 0" : op + " 0";
                    Told told = world(0).takes(S0).locals(types[k]).does(one + "; " + use + ABORT);
                    if (free) {
                        told.isTaken(one + " leaves free " + op);
                    } else {
                        told.fails(one + " bars " + op, 6, op == 13 ? at + 3 : at);
                    }
                }
            }
            for (int op = 11; op <= 15; op++) {
                String use = op == 13 ? "6; 8; 21 0; 13 0" : op + " 0";
                world(0).takes(S0).does(borrow[k] + "; 0; " + use + ABORT).isTaken(borrow[k] + " dropped frees " + op);
                world(0).takes(S0, S0).does(borrow[k] + "; " + use.replace(op + " 0", op + " 1") + ABORT)
                    .isTaken(borrow[k] + " leaves free another " + op);
            }
        }
        world(0).takes(S0).locals(0x080600).does("14 0; 13 1; 12 1; 11 1").fails("a moved reference is gone", 5, 3);
        world(0).takes(S0).locals(0x080600).does("14 0; 13 1; 12 1; 12 0").fails("but lives on the stack", 6, 3);
        world(0).takes(S0, S0).locals(0x080600).does("14 0; 13 2; 14 1; 13 2; 12 0; 12 1")
            .fails("another is put over the first", 6, 5);
        world(0).takes(0x0803).does("11 0; 12 0; 13 0; 12 0; 13 0" + ABORT).isTaken("references may always go");
    }

    private static void sole() {
        String write = "; 6; 11 0; 19";
        Told first = world(0).takes(0x0903).does("6; 11 0; 19; 1");
        first.isTaken("another writes, and is not inside");
        world(0).takes(0x0903).does("11 0; 11 0" + write + "; 0; 0; 1").isTaken("so do three");
        world(0).takes(0x0903).does("11 0; 20" + write).fails("another does not write", 6, 4);
        world(0).takes(0x0903, 0x0803).does("11 1" + write + "; 0; 1").isTaken("another does not meet");
        world(0).takes(0x0903).locals(0x0803).does("11 0; 20; 13 1" + write).fails("another, in a local", 6, 5);
        String struct = "; 6; 8; 21 0; 11 0; 19";
        world(0).takes(0x090600).does("11 0; 17 0 0" + struct).fails("another is inside", 6, 6);
        world(0).takes(0x090600).locals(0x0903).does("11 0; 17 0 0; 13 1" + struct).fails("inside, in a local", 6, 7);
        world(0).takes(0x090600).does("6; 11 0; 17 0 0; 19; 1").isTaken("inside itself");
        world(0).takes(0x090600).does("6; 11 0; 17 0 0; 11 0; 17 0 0; 13 1; 19; 1").fails("16 comes first", 16, 5);
        world(0).takes(0x090600).locals(0x0903).does("6; 11 0; 17 0 0; 11 0; 17 0 0; 13 1; 19; 1")
            .fails("two inside", 6, 6);
        String[] change = {"6; 11 0; 6; 56 0", "11 0; 57 0", "11 0; 6; 6; 58 0"};
        for (String one : change) {
            int at = one.split(";").length;
            world(0).takes(0x090703).does(one + ABORT).isTaken(one);
            world(0).takes(0x090703).does("11 0; 20; " + one).fails(one + " beside one that does not write", 6, at + 1);
            world(0).takes(0x090703).does("11 0; 6; 55 0; " + one).fails(one + " beside one inside", 6, at + 2);
            world(0).takes(0x090703).does("11 0; " + one + ABORT).isTaken(one + " beside one that writes");
        }
        world(0).takes(0x090703).does("11 0; 6; 54 0; 11 0; 53 0; 0; 11 0; 6; 54 0" + ABORT).isTaken("reading is free");
        world(0).takes(0x090703).does("11 0; 6; 55 0; 11 0; 6; 55 0" + ABORT).isTaken("so is 55");
    }

    private static Told callOf(long... takes) {
        return OperationTest.world().function(0).takes(takes).does("6; 45").function(0);
    }

    private static void calls() {
        callOf(0x0903).takes(0x0903).does("11 0; 23 1; 1").isTaken("another writes, and is not inside");
        callOf(0x0903).takes(0x0903).does("11 0; 20; 11 0; 23 1").fails("another does not write", 6, 3);
        callOf(0x0803).takes(0x0903).does("11 0; 20; 23 1; 1").isTaken("one that does not write needs not be sole");
        callOf(0x0903, 0x0903).takes(0x0903).does("11 0; 11 0; 23 1").fails("two taken meet", 6, 2);
        callOf(0x0903, 0x0803).takes(0x0903).does("11 0; 11 0; 20; 23 1").fails("one taken reads", 6, 3);
        callOf(0x0803, 0x0903).takes(0x0903).does("11 0; 20; 11 0; 23 1").fails("one taken reads, the first", 6, 3);
        callOf(0x0803, 0x0803).takes(0x0903).does("11 0; 20; 11 0; 20; 23 1; 1").isTaken("both read");
        callOf(0x0903, 0x0903).takes(0x0903, 0x0903).does("11 0; 11 1; 23 1; 1").isTaken("two that do not meet");
        callOf(0x0903, 3, 0x0903).takes(0x0903).does("11 0; 6; 11 0; 23 1").fails("one between", 6, 3);
        callOf(0x0903).takes(0x090600).does("11 0; 17 0 0; 23 1; 1").isTaken("inside itself");
        callOf(0x0903).takes(0x090600).does("11 0; 17 0 0; 11 0; 17 0 0; 23 1").fails("another is inside", 6, 4);
        callOf(3).does("23 1").fails("nothing to take", 1, 0);
        callOf(3).takes(0x0903).does("23 2").fails("itself, without what it takes", 1, 0);
        callOf(3).takes(0x0903).does("12 0; 23 2; 1").isTaken("itself");
    }

    private static void callsAndOrigins() {
        OperationTest.world().function(4).takes(3).does("6; 45").function(3).does("10; 23 1").fails("3 before 15", 3, 1);
        OperationTest.world().function(4).takes(3).does("6; 45").function(3).does("6; 23 1").fails("RESOURCES", 15, 1);
        OperationTest.world().function(7).does("6; 45").function(4).does("23 1; 1").isTaken("both have RESOURCES");
        OperationTest.world().function(3).does("6; 45").function(4).does("23 1; 1").isTaken("the caller alone");
        OperationTest.world().function(4).takes(0x0903, 0x0903).does("6; 45").function(0).takes(0x0903)
            .does("11 0; 11 0; 23 1").fails("15 before 6", 15, 2);
        Told live = OperationTest.world().function(4).does("6; 45").function(4);
        live.does("10; 50 3; 23 1").fails("a live one has a resource's origin", 6, 2);
        OperationTest.world().function(4).does("6; 45").function(4).locals(0x080610).does("10; 50 16; 13 0; 23 1")
            .fails("a live one in a local", 6, 3);
        OperationTest.world().function(4).takes(0x080603).does("6; 45").function(4).does("10; 50 3; 23 1")
            .fails("one of these", 6, 2);
        OperationTest.world().function(0).takes(0x080603).does("6; 45").function(4).does("10; 50 3; 23 1; 1")
            .isTaken("one of these, by one without RESOURCES");
        OperationTest.world().function(0).does("6; 45").function(4).does("10; 50 3; 23 1; 0; 1")
            .isTaken("a live one, by one without RESOURCES");
        OperationTest.world().function(4).takes(0x0803).does("6; 45").function(4).takes(0x0803, 3)
            .does("11 0; 23 1; 14 1; 23 1; 1").isTaken("origins of locals and what was taken");
        int[] last = {0, 14, 15};
        for (int structure : last) {
            Told told = new Told();
            for (int k = 0; k < 16; k++) {
                told.structure(8);
            }
            told.function(4).does("6; 45").function(4).does("10; 51 " + structure + "; 23 0")
                .fails("the resources of structure " + structure, 6, 2);
        }
        Told eight = new Told().function(4).does("6; 45").function(4);
        eight.takes(3, 3, 3, 3, 3, 3, 3, 0x0803).does("23 0; 1").isTaken("origin 47 is not above 47");
    }

    private static void resources() {
        for (int op = 48; op <= 51; op++) {
            world(3).does("10; " + op + " 3").fails("no RESOURCES by " + op, 15, 1);
            world(3).does("10; " + op + " 0").fails("15 before 4 by " + op, 15, 1);
            world(3).does(op + " 3").fails("1 before 15 by " + op, 1, 0);
            boolean bars = op == 48 || op == 51;
            world(4).does("10; 51 3; 10; " + op + " 3" + ABORT);
            String[] live = {"10; 50 3", "10; 51 3"};
            for (int k = 0; k < 2; k++) {
                Told told = world(4).does(live[k] + "; 10; " + op + " 3" + ABORT);
                if (op != 49 && (bars || k == 1)) {
                    told.fails(live[k] + " bars " + op, 6, 3);
                } else {
                    told.isTaken(live[k] + " leaves free " + op);
                }
                world(4).does(live[k] + "; 0; 10; " + op + " 3" + ABORT).isTaken("dropped, leaves free " + op);
                world(4).does(live[k] + "; 10; " + op + " 1" + ABORT).isTaken("leaves free another's " + op);
            }
        }
        world(3).takes(0x0603).does("12 0; 47 3").fails("no RESOURCES by 47", 15, 1);
        world(3).takes(S0).does("12 0; 47 0").fails("15 before 4 by 47", 15, 1);
        world(4).takes(0x0603).does("10; 51 3; 12 0; 47 3; 0; 1").isTaken("47 asks no origin");
        world(4).does("10; 51 1; 10; 51 16").fails("1 and 16 have one origin", 6, 3);
        world(4).does("10; 51 1; 13 0").fails("16 before 1", 16, 2);
        world(4).does("10; 51 3; 17 3 0; 10; 48 3").fails("inside, it keeps the origin", 6, 4);
    }

    private static void returning() {
        world(0).gives(3).does("1").fails("gives too little", 12, 0);
        world(0).does("6; 1").fails("gives too much", 12, 1);
        world(0).gives(3).does("5; 1").fails("gives another", 12, 1);
        world(0).gives(3, 1).does("6; 8; 1").isTaken("the last one topmost");
        world(0).gives(3, 1).does("8; 6; 1").fails("the last one is not topmost", 12, 2);
        world(0).gives(0x0803).takes(0x0903).does("12 0; 1").fails("just the type", 12, 1);
        world(0).takes(3).gives(0x0803).does("14 0; 1").fails("a local's reference", 14, 1);
        world(0).takes(NONE).gives(0x080602).does("14 0; 1").fails("14 before 13", 14, 1);
        world(0).takes(3, NONE).gives(0x0903).does("14 0; 1").fails("12 before 14", 12, 1);
        world(4).gives(0x080603).does("10; 50 3; 1").fails("a resource's reference", 14, 2);
        world(4).gives(0x090610, 0x0803).takes(0x0803).does("10; 51 16; 12 0; 1").fails("the lower one's", 14, 3);
        world(0).takes(0x0903).gives(0x0903).does("12 0; 1").isTaken("what was taken");
        world(0).takes(0x0903).gives(0x0903, 0x0903).does("11 0; 11 0; 1").isTaken("what was taken, twice");
        world(0).takes(0x090600).gives(0x0903).does("12 0; 17 0 0; 1").isTaken("inside what was taken");
        new Told().function(0).takes(3, 3, 3, 3, 3, 3, 3, 0x0803).gives(0x0803).does("12 7; 1").isTaken("origin 47");
        Told deep = new Told().structure(8).function(4).gives(0x080600).does("10; 50 0; 1");
        deep.fails("origin 48", 14, 2);
        Told far = new Told().function(0).takes(3, 3, 3, 3, 3, 3, 3, 3);
        for (int k = 0; k < 32; k++) {
            far.locals(3);
        }
        far.gives(0x0803).does("6; 13 39; 14 39; 1").fails("origin 39", 14, 3);
        world(0).takes(NONE).does("1").fails("a local without drop", 13, 0);
        world(0).takes(COPIES).does("1").fails("a local that copies", 13, 0);
        world(0).takes(DROPS).does("1").isTaken("a local with drop");
        world(0).takes(NONE).gives(NONE).does("12 0; 1").isTaken("a local without drop that is gone");
        world(0).locals(NONE).does("1").isTaken("a local without drop that never was there");
        world(0).locals(NONE).does("21 2; 13 0; 1").fails("a local without drop that was put there", 13, 2);
        world(0).takes(0x070602).does("1").fails("a vector without drop", 13, 0);
    }

    private static void branchesAndStack() {
        world(0).does("6; 35; 0; 2 1").fails("a place that a branch leads back to", 8, 1);
        world(0).does("6; 35; 0; 1; 2 1").fails("by one that is never come to", 8, 1);
        world(0).does("8; 3 3; 6; 0; 1").fails("both ways", 8, 3);
        world(0).does("6; 11 9; 0; 2 1").fails("8 before 16", 8, 1);
        world(0).does("6; 2 256; 2 -1").fails("a place that no branch leads to", 16, 1);
    }

    private static void comingAfter() {
        world(0).takes(1, NONE).does("11 0; 3 5; 12 1; 22 2; 2 5; 6; 45").fails("gone in the further one", 9, 4);
        world(0).takes(1).locals(NONE).does("11 0; 3 4; 21 2; 13 1; 6; 45").fails("there in the further one", 9, 3);
        world(0).takes(1, DROPS).does("11 0; 3 4; 12 1; 0; 1").isTaken("gone in one, with drop");
        world(0).takes(1, DROPS).does("11 0; 3 4; 12 1; 0; 12 1").fails("gone in one is gone", 5, 4);
        world(0).takes(1).locals(3).does("11 0; 3 4; 6; 13 1; 11 1").fails("there in the further one alone", 5, 4);
        world(0).takes(1, 3).does("11 0; 3 4; 6; 13 1; 11 1; 0; 1").isTaken("there in both");
        world(0).takes(1, NONE).does("11 0; 3 6; 12 1; 35; 35; 6; 6; 45").fails("9 before 8", 9, 5);
        world(0).takes(1).does("11 0; 3 4; 6; 35; 6; 45").fails("no 9, then 8", 8, 4);
        world(0).takes(1).locals(3, 0x0803).does("11 0; 3 8; 6; 13 1; 14 1; 13 2; 2 8; 35; 14 1")
            .fails("7 is not come to", 10, 7);
        world(0).takes(1, 3).locals(0x0803).does("14 1; 13 2; 11 0; 3 6; 2 6; 1; 12 1").fails("5 is not come to", 10, 5);
        world(0).takes(1, 3).locals(0x0803)
            .does("11 0; 3 5; 14 1; 13 2; 2 7; 14 1; 13 2; 12 1").fails("borrowed on both ways", 6, 7);
        world(0).takes(1, 3, 3).locals(0x0803)
            .does("11 0; 3 5; 14 1; 13 3; 2 7; 14 2; 13 3; 12 1").fails("borrowed on the first way", 6, 7);
        world(0).takes(1, 3, 3).locals(0x0803)
            .does("11 0; 3 5; 14 1; 13 3; 2 7; 14 2; 13 3; 12 2").fails("borrowed on the second way", 6, 7);
        world(0).takes(1, 3).locals(0x0803).does("11 0; 3 4; 14 1; 13 2; 12 1" + ABORT).isTaken("gone in one, it is free");
        world(0).takes(1, 3).locals(0x0803)
            .does("14 1; 13 2; 11 0; 3 7; 35; 35; 35; 12 1").fails("borrowed before", 6, 7);
        world(0).takes(1, 3, 0x0803).does("14 1; 13 2; 11 0; 3 10; 11 2; 0; 35; 35; 35; 35; 6; 13 1")
            .fails("6 for a local that is there", 6, 11);
    }

    private static void comingBack() {
        world(0).takes(1).does("35; 11 0; 3 0; 1").isTaken("just the same");
        world(0).takes(1).does("35; 11 0; 4 0; 1").isTaken("just the same, when not so");
        world(0).takes(1).does("35; 2 0").isTaken("for ever");
        world(0).does("2 0").isTaken("to itself");
        world(0).takes(3).does("12 0; 0; 2 0").fails("a local that is gone", 9, 2);
        world(0).takes(3).does("12 0; 13 0; 2 0").isTaken("a local that is put back");
        world(0).locals(3).does("6; 13 0; 2 0").isTaken("a local there too much, with drop");
        world(0).locals(NONE).does("21 2; 13 0; 2 0").fails("a local there too much, without drop", 9, 2);
        world(0).locals(NONE).does("21 2; 13 0; 12 0; 22 2; 2 0").isTaken("a local without drop, gone again");
        world(0).takes(3, 0x0803).does("14 0; 13 1; 2 0").fails("another origin", 9, 2);
        world(0).takes(3).locals(0x0803).does("14 0; 13 1; 35; 14 0; 13 1; 2 2").isTaken("the same origin");
        world(0).takes(3).locals(0x0803).does("14 0; 13 1; 2 0").isTaken("a reference that is gone there");
        world(0).takes(0x0803, 0x0803).does("11 0; 13 1; 2 0").fails("another of what was taken", 9, 2);
        world(0).takes(1, 3, 3).locals(0x0803)
            .does("11 0; 3 5; 14 1; 13 3; 2 7; 14 2; 13 3; 35; 14 1; 13 3; 2 7").isTaken("one of two origins");
        OperationTest.world().function(0).takes(0x090600).gives(0x090600).does("6; 45").function(0).takes(0x090600)
            .does("12 0; 23 1; 13 0; 2 0").fails("inside", 9, 3);
        OperationTest.world().function(0).takes(0x090600).gives(0x090600).does("6; 45").function(0).takes(0x090600)
            .does("12 0; 23 1; 13 0; 35; 12 0; 23 1; 13 0; 2 3").isTaken("inside there too");
        OperationTest.world().function(0).takes(0x090600).gives(0x090600).does("6; 45").function(0)
            .takes(0x090600, 1, 0x090600).does("12 2; 23 1; 13 2; 35; 12 0; 13 2; 2 3").fails("an origin more", 9, 6);
        world(0).takes(1, NONE).does("11 0; 3 0; 12 1; 22 2; 1").isTaken("back, then on");
        world(0).takes(1, NONE).does("12 1; 22 2; 11 0; 3 0; 1").fails("back without it", 9, 3);
        world(0).takes(1, NONE).does("12 1; 22 2; 11 0; 3 0").fails("9 before 11", 9, 3);
    }

    private static void notComeTo() {
        world(0).does("1; 1").fails("behind RETURN", 10, 1);
        world(0).does("6; 45; 1").fails("behind ABORT", 10, 2);
        world(0).does("2 0; 1").fails("behind BRANCH", 10, 1);
        world(0).does("2 2; 35; 2 1").fails("come to from behind alone", 10, 1);
        world(0).does("2 2; 11 77; 1").fails("10 before 16", 10, 1);
        world(0).does("1; 35; 2 1").fails("10 before 8", 10, 1);
        world(0).does("35").fails("no next", 11, 0);
        world(0).does("6; 0").fails("no next behind a drop", 11, 1);
        world(0).does("8; 3 0").fails("no next behind a branch", 11, 1);
        world(0).does("8; 4 0").fails("no next behind a branch when not so", 11, 1);
        world(0).does("6").fails("no next at 0", 11, 0);
        Told full = world(0).does("256*35");
        full.fails("no next at 255", 11, 255);
    }

    private static void names() {
        int[] none = {-1, Integer.MIN_VALUE, Integer.MAX_VALUE, 256, 64, 40};
        int[] ops = {2, 3, 4, 11, 12, 13, 14, 15, 16, 17, 21, 22, 23, 47, 48, 49, 50, 51, 52, 53, 54, 55, 56, 57, 58};
        for (int op : ops) {
            for (int a : none) {
                world(0).does(op + " " + a).fails("no such operand " + a + " by " + op, 16, 0);
            }
        }
        world(0).does("2 2; 1").fails("no such instruction", 16, 0);
        world(0).does("8; 3 2").fails("no such instruction, when so", 16, 1);
        for (int op = 11; op <= 15; op++) {
            world(0).takes(3).locals(3).does(op + " 2").fails("no such local by " + op, 16, 0);
        }
        for (int op = 16; op <= 17; op++) {
            world(0).does(op + " 0 2").fails("no such field", 16, 0);
            world(0).does(op + " 0 -1").fails("no such field -1", 16, 0);
            world(0).does(op + " 2 0").fails("no field at all", 16, 0);
            world(0).does(op + " 17 0").fails("no such structure", 16, 0);
        }
        world(0).does("21 17").fails("no such structure by 21", 16, 0);
        world(0).does("22 17").fails("no such structure by 22", 16, 0);
        world(0).does("23 2").fails("no such function", 16, 0);
        world(0).does("52 5 0").fails("no such element type", 16, 0);
        world(0).does("52 0 65").fails("65 values", 16, 0);
        world(0).does("52 0 -1").fails("-1 values", 16, 0);
        world(0).does("52 0 64").fails("64 values, but none there", 1, 0);
        for (int op = 47; op <= 51; op++) {
            world(0).does(op + " 17").fails("no such structure by " + op, 16, 0);
        }
        for (int op = 53; op <= 58; op++) {
            world(0).does(op + " 5").fails("no such element type by " + op, 16, 0);
            world(0).does(op + " 0 99").fails("b is not asked by " + op, 1, 0);
        }
        int[] free = {5, 6, 7, 8, 9, 10, 35, 46};
        for (int op : free) {
            world(0).does(op + " 99 -99; 6 -1 70; 45 -5 99").isTaken("operands that are not asked by " + op);
        }
        world(0).does("59 -1 -1").fails("operands that are not asked by 59", 1, 0);
        world(0).does("1 -1 -1").isTaken("operands that are not asked by 1");
    }
}
