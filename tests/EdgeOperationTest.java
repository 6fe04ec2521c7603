/**
 * Edges of the table of operations, 0 to 59: what each takes, tells and puts; a method for each row or sentence of
 * it.
 */
public final class EdgeOperationTest {
    private static final long[] ALL_TYPES = {1, 2, 3, 4, 5, 0x0607, 0x0703, 0x080607, 0x0903};

    public static void main(String[] args) {
        dropTakesAny();
        returnGives();
        returnGivesMost();
        returnOrigins();
        returnLocals();
        branches();
        abort();
        constants();
        copyLocal();
        moveLocal();
        setLocal();
        lastLocals();
        borrowLocal();
        borrowField();
        read();
        write();
        freeze();
        pack();
        unpack();
        callTakes();
        callResources();
        callSole();
        callOrigins();
        callPuts();
        arithmetic();
        bitwise();
        shifts();
        not();
        equal();
        order();
        widths();
        resourcesWanted();
        keyWanted();
        resourceOrigins();
        resourcePuts();
        vectorPack();
        vectorFifthSeven();
        vectorLength();
        vectorBorrow();
        vectorChange();
        vectorSole();
        hash();
        Due.end();
    }

    private static Told of(long... takes) {
        return Edge.of(4, takes);
    }

    /**
     * After this code the topmost is of the one type: local `k`, the first further one, takes it, and no other does.
     */
    private static void puts(String what, String code, int k, long type, long... takes) {
        for (long other : ALL_TYPES) {
            if (other != type) {
                of(takes).locals(other).does(code + "; 13 " + k + Edge.ABORT)
                    .fails(what + " puts no " + Long.toHexString(other), 3, Edge.length(code));
            }
        }
        of(takes).locals(type).does(code + "; 13 " + k + Edge.ABORT).isTaken(what + " puts " + Long.toHexString(type));
    }

    /** 0: "takes any: 4 without drop". */
    private static void dropTakesAny() {
        for (int own = 0; own < 16; own++) {
            long type = Edge.structure(own);
            Told one = of(type).does("12 0; 0; 1");
            Told vector = of(Edge.vector(type)).does("12 0; 0; 1");
            if ((own & 2) != 0) {
                one.isTaken("drop " + own);
                vector.isTaken("drop a vector of " + own);
            } else {
                one.fails("drop " + own, 4, 1);
                vector.fails("drop a vector of " + own, 4, 1);
            }
            of(Edge.reading(type)).does("12 0; 0; 1").isTaken("drop a reference to " + own);
            of(Edge.writing(type)).does("12 0; 0; 1").isTaken("drop a writing one to " + own);
        }
        for (long type : ALL_TYPES) {
            of(type).does("12 0; 0; 1").isTaken("drop " + type);
        }
        of().does("64*6; 64*0; 1").isTaken("drop all");
        of().does("64*6; 65*0; 1").fails("drop one too many", 1, 128);
    }

    /** 1: "12 when the stack is not just what the function gives (their types, the last one topmost)". */
    private static void returnGives() {
        of().does("1").isTaken("nothing");
        of().does("6; 1").fails("one for none", 12, 1);
        of().gives(3).does("1").fails("none for one", 12, 0);
        of().gives(3).does("6; 1").isTaken("one");
        of().gives(3).does("6; 6; 1").fails("two for one", 12, 2);
        of().gives(3, 3).does("6; 1").fails("one for two", 12, 1);
        of().gives(3, 1).does("6; 8; 1").isTaken("the last one topmost");
        of().gives(3, 1).does("8; 6; 1").fails("the first one topmost", 12, 2);
        of().gives(3, 1, 3).does("6; 8; 7; 1").fails("another topmost", 12, 3);
        of().gives(3, 1, 3).does("6; 5; 6; 1").fails("another between", 12, 3);
        of().gives(3, 1, 3).does("7; 8; 6; 1").fails("another lowest", 12, 3);
        for (long gives : ALL_TYPES) {
            for (long type : ALL_TYPES) {
                Told told = of(type).gives(gives).does("12 0; 1");
                if (type == gives) {
                    told.isTaken("gives " + type);
                } else {
                    told.fails("gives " + type + " for " + gives, 12, 1);
                }
            }
        }
        of(0x0601).gives(0x0600).does("12 0; 1").fails("another structure", 12, 1);
        of(0x070703).gives(0x0703).does("12 0; 1").fails("a vector more", 12, 1);
        of(0x080600).gives(0x090600).does("12 0; 1").fails("it does not write", 12, 1);
        of(0x090600).gives(0x080600).does("12 0; 1").fails("it writes", 12, 1);
    }

    private static void returnGivesMost() {
        of().gives(3, 3, 3, 3, 3, 3, 3, 1).does("7*6; 8; 1").isTaken("eight");
        of().gives(3, 3, 3, 3, 3, 3, 3, 1).does("6*6; 8; 1").fails("seven for eight", 12, 7);
        of().gives(3, 3, 3, 3, 3, 3, 3, 1).does("8*6; 8; 1").fails("nine for eight", 12, 9);
        of().gives(3, 3, 3, 3, 3, 3, 3, 1).does("8; 7*6; 1").fails("the last one lowest", 12, 8);
        of().gives(3, 3, 3, 3, 3, 3, 3, 3).does("64*6; 1").fails("64 for eight", 12, 64);
    }

    /** "14 when one of these is a reference with an origin below 40 or above 47". */
    private static void returnOrigins() {
        long[] eight = {3, 3, 3, 3, 3, 3, 3, 0x0903};
        of(eight).gives(0x0903).does("12 7; 1").isTaken("origin 47");
        of(0x0903).gives(0x0903).does("12 0; 1").isTaken("origin 40");
        Told local39 = of(3, 3, 3, 3, 3, 3, 3, 3);
        Told local0 = of(3).gives(0x0803).does("14 0; 1");
        local0.fails("origin 0", 14, 1);
        for (int k = 0; k < 32; k++) {
            local39.locals(3);
        }
        local39.gives(0x0803).does("6; 13 39; 14 39; 1").fails("origin 39", 14, 3);
        of().gives(0x08060f).does("10; 50 15; 1").fails("origin 48", 14, 2);
        of().gives(0x09061d).does("10; 51 29; 1").fails("origin 62", 14, 2);
        of(3, 0x0903).gives(0x0803, 0x0903).does("14 0; 12 1; 1").fails("the lower one", 14, 2);
        of(3, 0x0903).gives(0x0903, 0x0803).does("12 1; 14 0; 1").fails("the topmost one", 14, 2);
        of(3, 0x0903).gives(3, 0x0903, 3).does("6; 12 1; 6; 1").isTaken("among others");
        of(1, 0x0803, 3).locals(0x0803).gives(0x0803).does("11 0; 3 5; 11 1; 13 3; 2 7; 14 2; 13 3; 12 3; 1")
            .fails("one origin of two", 14, 8);
        of(1, 0x0803, 0x0803).locals(0x0803).gives(0x0803).does("11 0; 3 5; 11 1; 13 3; 2 7; 11 2; 13 3; 12 3; 1")
            .isTaken("two origins that were taken");
        of(3).locals(0x0803).does("14 0; 13 1; 1").isTaken("what a local holds is not given");
        of(0x0607).gives(0x0803).does("14 0; 16 7 0; 1").fails("inside a local", 14, 2);
        of(0x080607).gives(0x0803).does("12 0; 16 7 0; 1").isTaken("inside what was taken");
        of(3).gives(3).does("12 0; 1").isTaken("a local itself");
        of(3).gives(0x0703).does("14 0; 1").fails("12 before 14", 12, 1);
        of(0x0600).gives(0x080600).does("14 0; 1").fails("14 before 13", 14, 1);
        of(0x0600).gives(3).does("1").fails("12 before 13", 12, 0);
        of(0x0600).gives(0x0803).does("14 0; 1").fails("12 before 14 and 13", 12, 1);
    }

    /** "13 when a local that is there has no drop". */
    private static void returnLocals() {
        for (int own = 0; own < 16; own++) {
            long type = Edge.structure(own);
            Told taken = of(3, type).does("1");
            Told further = of().locals(type).does("21 " + own + "; 13 0; 1");
            if ((own & 2) != 0) {
                taken.isTaken("a local with drop");
                if (own != 7 && own != 15) {
                    further.isTaken("a further one with drop");
                }
            } else {
                taken.fails("a local without drop", 13, 0);
                further.fails("a further one without drop", 13, 2);
            }
            of(type).gives(type).does("12 0; 1").isTaken("a gone local");
            of().locals(type).does("1").isTaken("a local never there");
            of(Edge.reading(type), Edge.writing(type)).does("1").isTaken("references");
        }
        Told last = of(3, 3, 3, 3, 3, 3, 3, 3);
        for (int k = 0; k < 32; k++) {
            last.locals(k == 31 ? Edge.BARE : 3);
        }
        last.does("35; 1").isTaken("local 39 gone");
        last = of(3, 3, 3, 3, 3, 3, 3, 3);
        for (int k = 0; k < 32; k++) {
            last.locals(k == 31 ? Edge.BARE : 3);
        }
        last.does("21 0; 13 39; 1").fails("local 39 there", 13, 2);
        of(0x070600).does("1").fails("a vector without drop", 13, 0);
        of(0x0600).does("6; 45").isTaken("ABORT asks no drop");
        of(0x0600).does("2 0").isTaken("BRANCH asks no drop");
    }

    /** 2, 3, 4: "8 when the stack is not empty then", that is, when the truth is taken. */
    private static void branches() {
        for (int op = 3; op <= 4; op++) {
            of().does("8; " + op + " 2; 1").isTaken("just a truth by " + op);
            of().does("9; " + op + " 2; 1").isTaken("just another truth by " + op);
            of().does("8; 8; " + op + " 3; 1").fails("a truth left by " + op, 8, 2);
            of().does("63*6; 8; " + op + " 65; 1").fails("63 left by " + op, 8, 64);
            of().does(op + " 1; 1").fails("no truth by " + op, 1, 0);
            of().does("5; " + op + " 2; 1").fails("a byte by " + op, 3, 1);
            of().does("8; 5; " + op + " 3; 1").fails("3 before 8 by " + op, 3, 2);
            of(3).does("12 0; 0; 6; 8; " + op + " 0").fails("8 before 9 by " + op, 8, 4);
            of().does("8; 8; " + op + " 0").fails("8 before 11 by " + op, 8, 2);
        }
        of().does("2 1; 1").isTaken("an empty one");
        of().does("6; 2 2; 1").fails("a value left", 8, 1);
        of().does("64*6; 2 65; 1").fails("64 left", 8, 64);
        of().does("8; 2 2; 1").fails("2 takes no truth", 8, 1);
        of(3).does("12 0; 0; 6; 2 0").fails("8 before 9", 8, 3);
        of().does("2 0").isTaken("to 0");
        of().does("35; 2 0").isTaken("to 0 from 1");
        of().does("2 1").fails("to none", 16, 0);
        of().does("2 -1").fails("to -1", 16, 0);
        of().does("2 255; 254*35; 1").fails("to 255", 10, 1);
        of().does("8; 3 255; 252*35; 1; 1").isTaken("to 255, the last");
        of().does("8; 3 256; 252*35; 1; 1").fails("to 256", 16, 1);
    }

    /** 45: "takes a long"; whatever is left. */
    private static void abort() {
        of().does("6; 45").isTaken("a long");
        of().does("21 0; 6; 45").isTaken("what has no drop is left on the stack");
        of(0x0600).does("6; 45").isTaken("what has no drop is left in a local");
        of(3).gives(1).does("14 0; 6; 45").isTaken("gives nothing");
        of().does("63*5; 6; 45").isTaken("63 are left");
        of().does("45").fails("nothing", 1, 0);
        of().does("7; 45").fails("a wide", 3, 1);
        of().does("5; 45").fails("a byte", 3, 1);
        of().does("6; 8; 45").fails("a truth topmost", 3, 2);
    }

    /** "5 6 7 8 9 10 46 35: put a byte, a long, a wide, a truth, a truth, an address, an address, nothing." */
    private static void constants() {
        int[] ops = {5, 6, 7, 8, 9, 10, 46};
        long[] types = {2, 3, 4, 1, 1, 5, 5};
        for (int k = 0; k < ops.length; k++) {
            puts("" + ops[k], "" + ops[k], 0, types[k]);
            of().gives(types[k]).does(ops[k] + " 7 7; 1").isTaken("just one by " + ops[k]);
        }
        of().does("35 7 7; 1").isTaken("nothing by 35");
        of().gives(3).does("6; 35; 1").isTaken("35 leaves what is there");
    }

    /** 11: "copies local a: 5 when it is gone; 4 without copy; 6, if it is no reference, when a live writing one". */
    private static void copyLocal() {
        for (int own = 0; own < 16; own++) {
            long type = Edge.structure(own);
            Told one = of(type).does("11 0" + Edge.ABORT);
            Told vector = of(Edge.vector(type)).does("11 0" + Edge.ABORT);
            if ((own & 1) != 0) {
                one.isTaken("copy " + own);
                vector.isTaken("copy a vector of " + own);
                Due.due("it is there yet", one.x.there(1, 0), 1);
            } else {
                one.fails("copy " + own, 4, 0);
                vector.fails("copy a vector of " + own, 4, 0);
            }
            of(Edge.writing(type)).does("11 0; 11 0" + Edge.ABORT).isTaken("copy a writing one to " + own);
        }
        for (long type : ALL_TYPES) {
            puts("11", "11 0", 1, type, type);
            of(type).does("12 0; 11 0").fails("gone", 5, 1);
            of().locals(type).does("11 0").fails("never there", 5, 0);
            of(type).does("11 0; 11 0; 12 0; 11 0").fails("gone now", 5, 3);
        }
        of().locals(0x0600).does("11 0").fails("5 before 4", 5, 0);
        of(0x0600).does("15 0; 11 0").fails("4 before 6", 4, 1);
        of(3).does("15 0; 11 0").fails("a live writing one", 6, 1);
        of(3).does("14 0; 11 0" + Edge.ABORT).isTaken("a live reading one");
        of(3).does("15 0; 20; 11 0" + Edge.ABORT).isTaken("a live one that wrote");
        of(3).does("15 0; 0; 11 0" + Edge.ABORT).isTaken("a writing one that was dropped");
        of(3, 3).does("15 0; 11 1" + Edge.ABORT).isTaken("a writing one of another local");
        of(3).locals(0x0903).does("15 0; 13 1; 11 0").fails("a writing one in a local", 6, 2);
        of(3).locals(0x0903).does("15 0; 13 1; 11 1; 12 1" + Edge.ABORT).isTaken("a reference's copy is free");
    }

    /** 12: "moves it: 5; 6, if it is no reference, when a live one has its bit; it is gone then". */
    private static void moveLocal() {
        for (int own = 0; own < 16; own++) {
            of(Edge.structure(own)).does("12 0" + Edge.ABORT).isTaken("move asks no ability");
        }
        for (long type : ALL_TYPES) {
            puts("12", "12 0", 1, type, type);
            Told told = of(type).does("12 0" + Edge.ABORT).isTaken("moved");
            Due.due("there before", told.x.there(0, 0), 1);
            Due.due("gone then", told.x.there(1, 0), 0);
            of(type).does("12 0; 12 0").fails("gone", 5, 1);
            of().locals(type).does("12 0").fails("never there", 5, 0);
        }
        of(3).does("14 0; 12 0").fails("a live reading one", 6, 1);
        of(3).does("15 0; 12 0").fails("a live writing one", 6, 1);
        of(3).does("15 0; 20; 12 0").fails("a live one that wrote", 6, 2);
        of(0x0607).does("14 0; 16 7 1; 12 0").fails("a live one inside", 6, 2);
        of(3).does("14 0; 18; 12 0" + Edge.ABORT).isTaken("one that was read");
        of(3, 3).does("14 0; 12 1" + Edge.ABORT).isTaken("one of another local");
        of(3).locals(0x0803).does("14 0; 13 1; 12 0").fails("one in a local", 6, 2);
        of(3).locals(0x0803).does("14 0; 13 1; 12 1; 0; 12 0" + Edge.ABORT).isTaken("one that was in a local");
        of(3).locals(0x0903).does("15 0; 13 1; 11 1; 12 1" + Edge.ABORT)
            .isTaken("a reference moves, though another meets it");
    }

    /** 13: "takes its type for it: 4 when it is there and has no drop; 6 ..; it is there then". */
    private static void setLocal() {
        for (int own = 0; own < 16; own++) {
            long type = Edge.structure(own);
            Told over = of(type, type).does("12 0; 13 1" + Edge.ABORT);
            if ((own & 2) != 0) {
                over.isTaken("over one with drop");
            } else {
                over.fails("over one without drop", 4, 1);
            }
            of(type).locals(type).does("12 0; 13 1" + Edge.ABORT).isTaken("over one never there");
            of(type, type).does("12 0; 12 1; 13 0; 13 1" + Edge.ABORT).isTaken("over ones that are gone");
            of(type).does("12 0; 13 0" + Edge.ABORT).isTaken("itself again");
        }
        for (long type : ALL_TYPES) {
            Told told = of(type).locals(type).does("12 0; 13 1" + Edge.ABORT).isTaken("set");
            Due.due("gone before", told.x.there(1, 1), 0);
            Due.due("there then", told.x.there(2, 1), 1);
            Due.due("the other is gone", told.x.there(2, 0), 0);
            for (long local : ALL_TYPES) {
                if (local != type) {
                    of(type).locals(local).does("12 0; 13 1").fails(type + " for " + local, 3, 1);
                }
            }
        }
        of(3).does("14 0; 6; 13 0").fails("a live reading one", 6, 2);
        of(3).does("15 0; 6; 13 0").fails("a live writing one", 6, 2);
        of(3).locals(0x0803).does("14 0; 13 1; 6; 13 0").fails("one in a local", 6, 3);
        of(3).does("14 0; 0; 6; 13 0" + Edge.ABORT).isTaken("one that was dropped");
        of(3, 3).does("14 0; 6; 13 1" + Edge.ABORT).isTaken("one of another local");
        of(0x0600).does("21 0; 14 0; 0; 13 0").fails("there, without drop", 4, 3);
        of(0x0600).locals(0x080600).does("14 0; 13 1; 21 0; 13 0").fails("4 before 6", 4, 3);
        of(3).locals(0x0903).does("15 0; 13 1; 11 1; 13 1" + Edge.ABORT)
            .isTaken("a reference, though another meets it");
        of(3, 3).locals(0x0903).does("15 0; 13 2; 15 1; 13 2; 12 0" + Edge.ABORT)
            .isTaken("over a reference: it lives no more");
    }

    /** Local 39 by 11 .. 15, and 40 that is none; with less of them the last one and the first that is none. */
    private static void lastLocals() {
        for (int count = 1; count <= 40; count++) {
            for (int op = 11; op <= 15; op++) {
                String first = "6; 13 " + (count - 1) + "; " + (op == 13 ? "6; " : "") + op + " ";
                manyLocals(count).does(first + (count - 1) + Edge.ABORT).isTaken("the last of " + count + " by " + op);
                manyLocals(count).does(first + count + Edge.ABORT)
                    .fails("none beyond " + count + " by " + op, 16, op == 13 ? 3 : 2);
            }
        }
        for (int op = 11; op <= 15; op++) {
            manyLocals(40).does(op + " -1").fails("local -1 by " + op, 16, 0);
            manyLocals(40).does(op + " 64").fails("local 64 by " + op, 16, 0);
            manyLocals(40).does(op + " -64").fails("local -64 by " + op, 16, 0);
        }
    }

    /** Of up to eight that are taken, and further ones. */
    private static Told manyLocals(int count) {
        Told told = new Told().function(0);
        for (int k = 0; k < count; k++) {
            if (k < 8) {
                told.takes(3);
            } else {
                told.locals(3);
            }
        }
        return told;
    }

    /** 14, 15: "5; 3 when it is a reference; 6 when a live writing one (14), any live one (15) has its bit". */
    private static void borrowLocal() {
        for (long type : ALL_TYPES) {
            if (type < 0x080000 && type != 0x0903) {
                puts("14", "14 0", 1, Edge.reading(type), type);
                puts("15", "15 0", 1, Edge.writing(type), type);
            } else {
                of(type).does("14 0").fails("a reference by 14", 3, 0);
                of(type).does("15 0").fails("a reference by 15", 3, 0);
            }
            for (int op = 14; op <= 15; op++) {
                of(type).does("12 0; " + op + " 0").fails("gone, before 3", 5, 1);
                of().locals(type).does(op + " 0").fails("never there, before 3", 5, 0);
            }
        }
        for (int own = 0; own < 16; own++) {
            of(Edge.structure(own)).does("14 0; 14 0" + Edge.ABORT).isTaken("14 asks no ability");
            of(Edge.structure(own)).does("15 0" + Edge.ABORT).isTaken("15 asks no ability");
        }
        of(0x0707070703L).does("15 0" + Edge.ABORT).isTaken("four 7s");
        of(3).does("14 0; 14 0; 14 0" + Edge.ABORT).isTaken("many reading ones");
        of(3).does("15 0; 14 0").fails("14, a live writing one", 6, 1);
        of(3).does("14 0; 15 0").fails("15, a live reading one", 6, 1);
        of(3).does("15 0; 15 0").fails("15, a live writing one", 6, 1);
        of(3).does("15 0; 20; 14 0" + Edge.ABORT).isTaken("14, one that wrote");
        of(3).does("15 0; 20; 15 0").fails("15, one that wrote", 6, 2);
        of(3).does("15 0; 0; 15 0; 0; 14 0" + Edge.ABORT).isTaken("none is live");
        of(3, 3).does("15 0; 15 1" + Edge.ABORT).isTaken("15 of two");
        of(3, 3).does("15 0; 14 1" + Edge.ABORT).isTaken("14 of another");
        of(3).locals(0x0903).does("15 0; 13 1; 14 0").fails("14, one in a local", 6, 2);
        of(3).locals(0x0803).does("14 0; 13 1; 15 0").fails("15, one in a local", 6, 2);
    }

    /** 16, 17: "take a reference (17 a writing one) to structure a: one (17 writing) to its field b". */
    private static void borrowField() {
        puts("16 of a reading one", "12 0; 16 7 0", 1, 0x0803, 0x080607);
        puts("16 of a writing one", "12 0; 16 7 0", 1, 0x0803, 0x090607);
        puts("16, field 1", "12 0; 16 7 1", 1, 0x0801, 0x080607);
        puts("17", "12 0; 17 7 0", 1, 0x0903, 0x090607);
        puts("17, field 1", "12 0; 17 7 1", 1, 0x0901, 0x090607);
        for (int op = 16; op <= 17; op++) {
            of(0x090607).does("12 0; " + op + " 7 2").fails("field 2 of two", 16, 1);
            of(0x090607).does("12 0; " + op + " 7 -1").fails("field -1", 16, 1);
            of(0x090607).does("12 0; " + op + " 6 0").fails("field 0 of none", 16, 1);
            of(0x090607).does("12 0; " + op + " 32 0").fails("structure 32", 16, 1);
            of(0x090607).does("12 0; " + op + " -1 0").fails("structure -1", 16, 1);
            of(0x090607).does("12 0; " + op + " 15 0").fails("another structure", 3, 1);
            of(0x0607).does("12 0; " + op + " 7 0").fails("no reference", 3, 1);
            of(0x09070607).does("12 0; " + op + " 7 0").fails("a reference to a vector of it", 3, 1);
            of(3, 3, 3, 0x09060f).does("11 3; " + op + " 15 0" + Edge.ABORT).isTaken("structure 15 beside four locals");
            of(3, 3, 3, 0x09060f).does("11 3; " + op + " 15 1" + Edge.ABORT).fails("field 1 beside four locals", 16, 1);
            Told wide = new Told().structure(7, 3, 3, 3, 3, 3, 3, 3, 3, 3, 3, 3, 3, 3, 3, 3, 5).function(0);
            wide.takes(0x090600).locals(op == 16 ? 0x0805 : 0x0905).does("12 0; " + op + " 0 15; 13 1; 1")
                .isTaken("field 15");
            wide.function(0).takes(0x090600).does("12 0; " + op + " 0 16; 1").fails("field 16", 16, 1);
        }
        of(0x080607).does("12 0; 17 7 0").fails("17 of a reading one", 7, 1);
        of(0x08060f).does("12 0; 17 7 0").fails("17 of a reading one to another", 3, 1);
    }

    /** 18: "takes any reference: 4 when what it points to has no copy: that". */
    private static void read() {
        for (int own = 0; own < 16; own++) {
            long[] targets = {Edge.structure(own), Edge.vector(Edge.structure(own))};
            for (long target : targets) {
                for (int lead = 8; lead <= 9; lead++) {
                    Told told = of(Edge.led(lead, target)).locals(target).does("12 0; 18; 13 1" + Edge.ABORT);
                    if ((own & 1) != 0) {
                        told.isTaken("read " + own);
                    } else {
                        told.fails("read " + own, 4, 1);
                    }
                }
            }
        }
        for (long target : new long[] {1, 2, 3, 4, 5, 0x0607, 0x0703}) {
            puts("18 of a reading one", "12 0; 18", 1, target, Edge.reading(target));
            puts("18 of a writing one", "12 0; 18", 1, target, Edge.writing(target));
            of(target).does("12 0; 18").fails("no reference", 3, 1);
        }
        of(0x0903).does("11 0; 11 0; 18" + Edge.ABORT).isTaken("read asks not whether it is sole");
        of(0x090607).does("11 0; 17 7 0; 11 0; 18" + Edge.ABORT).isTaken("nor whether one is inside");
    }

    /** 19: "takes a writing reference, and what it points to: 4 without drop; 6 when it is not sole". */
    private static void write() {
        for (int own = 0; own < 16; own++) {
            long type = Edge.structure(own);
            Told told = of(Edge.writing(type), type).does("12 1; 12 0; 19; 1");
            Told vector = of(Edge.writing(Edge.vector(type)), Edge.vector(type)).does("12 1; 12 0; 19; 1");
            if ((own & 2) != 0) {
                told.isTaken("write " + own);
                vector.isTaken("write a vector of " + own);
            } else {
                told.fails("write " + own, 4, 2);
                vector.fails("write a vector of " + own, 4, 2);
            }
        }
        of(0x0903).does("6; 12 0; 19; 1").isTaken("a long");
        of(0x0903).does("12 0; 6; 19; 1").fails("the reference not topmost", 3, 2);
        of(0x0903).does("5; 12 0; 19; 1").fails("another below", 3, 2);
        of(0x0903).does("12 0; 19; 1").fails("nothing below", 1, 1);
        of(0x0803).does("6; 12 0; 19; 1").fails("it does not write", 7, 2);
        of(3).does("6; 15 0; 19; 1").isTaken("a local's");
        of(3).locals(0x0903).does("15 0; 13 1; 6; 11 1; 19; 11 0" + Edge.ABORT).fails("it lives yet", 6, 5);
        of(3).does("6; 15 0; 19; 12 0; 0; 1").isTaken("it is taken");
        of(0x090600).does("11 0; 20; 21 0; 11 0; 19").fails("4 before 6", 4, 4);
        of(0x0903).does("11 0; 20; 6; 11 0; 19").fails("not sole", 6, 4);
    }

    /** 20: "takes a writing reference: one that does not write, else the same". */
    private static void freeze() {
        for (long target : new long[] {1, 2, 3, 4, 5, 0x0600, 0x0607, 0x0703, 0x070707070600L}) {
            of(Edge.writing(target)).locals(Edge.reading(target)).does("12 0; 20; 13 1; 1")
                .isTaken("one that does not write");
            of(Edge.writing(target)).locals(Edge.writing(target)).does("12 0; 20; 13 1; 1")
                .fails("it writes no more", 3, 2);
            of(Edge.reading(target)).does("12 0; 20").fails("it wrote not", 7, 1);
            of(target).does("12 0; 20").fails("no reference", 3, 1);
        }
        of(0x0903).does("12 0; 20; 20").fails("twice", 7, 2);
        of(0x0903).does("11 0; 11 0; 20" + Edge.ABORT).isTaken("it need not be sole");
        of(0x0903).does("11 0; 20; 11 0; 20" + Edge.ABORT).isTaken("nor beside one that reads");
    }

    /** 21: "PACK takes the fields of structure a, the last one topmost: it". */
    private static void pack() {
        puts("21", "6; 8; 21 7", 0, 0x0607);
        of().locals(0x060f).does("10; 21 15; 13 0" + Edge.ABORT).isTaken("of one field");
        of().does("8; 6; 21 7").fails("the first topmost", 3, 2);
        of().does("8; 8; 21 7").fails("another below", 3, 2);
        of().does("8; 21 7").fails("the last alone", 1, 1);
        of().does("21 7").fails("none", 1, 0);
        for (int own = 0; own < 32; own++) {
            if (own != 7 && own != 15) {
                of().locals(Edge.structure(own)).does("21 " + own + "; 13 0" + Edge.ABORT).isTaken("of none");
            }
        }
        of().does("21 32").fails("structure 32", 16, 0);
        of().does("21 -1").fails("structure -1", 16, 0);
        Told bare = new Told().structure(0).structure(7, 0x0600).function(0).does("21 0; 21 1; 6; 45");
        bare.isTaken("a structure that does not bear its abilities is packed all the same");
    }

    /** 22: "takes it: its fields likewise". */
    private static void unpack() {
        puts("22 topmost", "12 0; 22 7", 1, 1, 0x0607);
        puts("22 below", "12 0; 22 7; 0", 1, 3, 0x0607);
        of(0x0607).gives(3, 1).does("12 0; 22 7; 1").isTaken("both, the last topmost");
        of(0x060f).gives(5).does("12 0; 22 15; 1").isTaken("one");
        of(0x0600).does("12 0; 22 0; 1").isTaken("none; it asks no drop");
        of(0x0601).does("12 0; 22 0; 1").fails("another structure", 3, 1);
        of(0x080600).does("12 0; 22 0; 1").fails("a reference to it", 3, 1);
        of(0x070600).does("12 0; 22 0; 1").fails("a vector of it", 3, 1);
        of().does("22 32").fails("structure 32", 16, 0);
        of().does("22 -1").fails("structure -1", 16, 0);
        Told wide = new Told().structure(0, 1, 2, 3, 4, 5, 1, 2, 3, 4, 5, 1, 2, 3, 4, 5, 0x0703).function(0);
        wide.takes(0x0600).locals(0x0703, 5, 4, 3, 2, 1)
            .does("12 0; 22 0; 13 1; 13 2; 13 3; 13 4; 13 5; 13 6; 13 2; 13 3;"
            + "13 4; 13 5; 13 6; 13 2; 13 3; 13 4; 13 5; 13 6; 1").isTaken("sixteen, the last topmost");
    }

    /** 23: "CALL function a takes what that takes, the last one topmost". */
    private static void callTakes() {
        of(3, 1).does("6; 45").function(4).does("6; 8; 23 0; 1").isTaken("the last one topmost");
        of(3, 1).does("6; 45").function(4).does("8; 6; 23 0; 1").fails("the first one topmost", 3, 2);
        of(3, 1).does("6; 45").function(4).does("5; 8; 23 0; 1").fails("another below", 3, 2);
        of(3, 1).does("6; 45").function(4).does("8; 23 0; 1").fails("the last one alone", 1, 1);
        of(3, 1).does("6; 45").function(4).does("6; 6; 8; 23 0; 1").fails("one too many is left", 12, 4);
        of(3, 3, 3, 3, 3, 3, 3, 1).does("6; 45").function(4).does("7*6; 8; 23 0; 1").isTaken("eight");
        of(3, 3, 3, 3, 3, 3, 3, 1).does("6; 45").function(4).does("6*6; 8; 23 0; 1").fails("seven for eight", 1, 7);
        of(3).function(4).does("6; 23 0; 1").isTaken("one without instructions");
        of(3).does("24").function(4).does("6; 23 0; 1").isTaken("one with a fault");
        of().does("23 0; 1").isTaken("itself");
        of().does("23 1; 1").fails("none yet", 16, 0);
        Told later = of().does("23 1; 1").fails("none yet", 16, 0);
        later.function(4).takes(3);
        Due.due("it is there now, and takes a long", later.x.check(0), -1);
        Told many = new Told();
        for (int k = 0; k < 64; k++) {
            many.function(0);
        }
        many.does("23 0; 23 63; 1").isTaken("the first and the last");
        many = new Told();
        for (int k = 0; k < 64; k++) {
            many.function(0);
        }
        many.does("23 64; 1").fails("beyond the last", 16, 0);
        of().does("23 -1; 1").fails("function -1", 16, 0);
        of(0x0600).does("6; 45").function(4).takes(0x0600).does("12 0; 23 0; 1").isTaken("a call asks no ability");
    }

    /** "15 when that has RESOURCES and this has not". */
    private static void callResources() {
        for (int that = 0; that <= 7; that++) {
            for (int these = 0; these <= 7; these++) {
                Told told = Edge.of(that).does("1").function(these).does("23 0; 1");
                if (that >= 4 && these < 4) {
                    told.fails(these + " calls " + that, 15, 0);
                } else {
                    told.isTaken(these + " calls " + that);
                }
            }
        }
        Edge.of(4, 0x0903, 0x0803).does("6; 45").function(0).takes(0x0903).does("11 0; 11 0; 20; 23 0")
            .fails("15 before 6", 15, 3);
    }

    private static Told call(long... takes) {
        return Edge.of(0, takes).does("6; 45").function(4);
    }

    /** "6 when a writing one of these is not sole (each other one of these counts as inside for that)". */
    private static void callSole() {
        call(0x0903).takes(0x0903).does("12 0; 23 0; 1").isTaken("just one");
        call(0x0903).takes(0x0903).does("11 0; 11 0; 23 0; 0; 1").isTaken("a live one that writes, and is not inside");
        call(0x0903).takes(0x0903).does("11 0; 20; 11 0; 23 0; 0; 1").fails("a live one that does not write", 6, 3);
        call(0x0901).takes(0x090607).locals(0x0901).does("11 0; 17 7 1; 13 1; 11 0; 17 7 1; 23 0")
            .fails("a live one inside", 6, 5);
        call(0x0903, 0x0903).takes(0x0903).does("11 0; 11 0; 23 0").fails("another of these, that writes", 6, 2);
        call(0x0903, 0x0803).takes(0x0903).does("11 0; 11 0; 20; 23 0").fails("the last of these, that reads", 6, 3);
        call(0x0803, 0x0903).takes(0x0903).does("11 0; 20; 11 0; 23 0").fails("the first of these, that reads", 6, 3);
        call(0x0803, 0x0803).takes(0x0903).does("11 0; 20; 11 0; 20; 23 0; 1").isTaken("none of these writes");
        call(0x0803).takes(0x0903).does("11 0; 20; 23 0; 1").isTaken("one that reads need not be sole");
        call(0x0903, 0x0903).takes(0x0903, 0x0903).does("11 0; 11 1; 23 0; 1").isTaken("two that do not meet");
        call(0x0903, 3, 3, 3, 3, 3, 3, 0x0903).takes(0x0903).does("11 0; 6*6; 11 0; 23 0")
            .fails("the first and the eighth", 6, 8);
        call(3, 3, 3, 3, 3, 3, 0x0803, 0x0903).takes(0x0903).does("6*6; 11 0; 20; 11 0; 23 0")
            .fails("the seventh and the eighth",
            6, 9);
        call(0x0803, 0x0903).takes(0x0903, 0x0803).does("11 1; 11 0; 23 0; 1").isTaken("one that reads another");
        call(0x0903).takes(0x090607).does("12 0; 17 7 0; 23 0; 1").isTaken("one inside, alone");
        call(0x0903).takes(0x090607).does("11 0; 17 7 0; 23 0; 1").isTaken("one inside, beside a live one that is not");
        call(0x0903).takes(0x0903, 0x0803).does("11 1; 11 0; 23 0; 0; 1").isTaken("a live one that does not meet it");
        call(0x0903, 0x0903).takes(0x0903, 0x0903).does("11 0; 20; 11 0; 11 1; 23 0")
            .fails("the first is not sole", 6, 4);
        call(0x0903, 0x0903).takes(0x0903, 0x0903).does("11 1; 20; 11 0; 11 1; 23 0")
            .fails("the last is not sole", 6, 4);
        call(3, 0x0903).takes(3).does("11 0; 15 0; 23 0; 1").isTaken("a long has no origin");
    }

    /** "6 when it has RESOURCES and a live one, or one of these, has an origin above 47". */
    private static void callOrigins() {
        for (int flags = 0; flags <= 7; flags++) {
            Told live = Edge.of(flags).does("1").function(4).does("10; 50 8; 23 0; 0; 1");
            Told these = Edge.of(flags, 0x080608).does("1").function(4).does("10; 50 8; 23 0; 1");
            Told held = Edge.of(flags).does("1").function(4).locals(0x090608).does("10; 51 8; 13 0; 23 0; 1");
            if (flags >= 4) {
                live.fails("a live one", 6, 2);
                these.fails("one of these", 6, 2);
                held.fails("one in a local", 6, 3);
            } else {
                live.isTaken("a live one, no RESOURCES");
                these.isTaken("one of these, no RESOURCES");
                held.isTaken("one in a local, no RESOURCES");
            }
        }
        for (int s = 8; s < 32; s++) {
            if ((s & 8) != 0 || s >= 16) {
                Told told = of().does("1").function(4).does(s == 15 ? "10; 50 15; 23 0" : "10; 51 " + s + "; 23 0");
                told.fails("origin " + (48 + s % 15), 6, 2);
            }
        }
        of(3, 3, 3, 3, 3, 3, 3, 0x0903).does("7*6; 11 7; 23 0; 1").isTaken("origin 47 is not above 47");
        of(3, 3, 3, 3, 3, 3, 3, 0x0803).does("14 0; 7*6; 11 7; 23 0; 0; 1").isTaken("a local's is not");
        of().does("1").function(4).does("10; 50 8; 0; 23 0; 1").isTaken("one that was dropped");
        Edge.of(0, 0x080608).gives(0x080608).does("12 0; 1").function(4).does("1").function(4)
            .does("10; 50 8; 23 0; 23 1").fails("what was given keeps the origin", 6, 3);
    }

    /** "It puts what that gives": in its order, the last one topmost. */
    private static void callPuts() {
        of().gives(3, 1, 0x0607).does("6; 45").function(4).gives(3, 1, 0x0607).does("23 0; 1").isTaken("three");
        of().gives(3, 1).does("6; 45").function(4).gives(1, 3).does("23 0; 1").fails("in its order", 12, 1);
        of().does("1").function(4).does("23 0; 1").isTaken("nothing");
        of().gives(1, 2, 3, 4, 5, 1, 2, 3).does("6; 45").function(4).gives(1, 2, 3, 4, 5, 1, 2, 3).does("23 0; 1")
            .isTaken("eight");
        Told told = of(0x0803).gives(0x0903, 0x0803).does("6; 45").function(4).takes(0x0803).locals(0x0803, 0x0903);
        told.does("12 0; 23 0; 13 1; 13 2; 1").isTaken("references");
        told = of().gives(0x0600).does("6; 45").function(4).does("23 0; 0; 1");
        told.fails("what has no drop", 4, 1);
    }

    private static void twoNumbers(int op, boolean truths, boolean answersTruth) {
        String[] push = {"8", "5", "6", "7", "10", "12 0", "12 1"};
        for (int top = 0; top < push.length; top++) {
            for (int below = 0; below < push.length; below++) {
                if (top > 4 && below > 4) {
                    continue;
                }
                boolean fits = top == below && (top >= 1 && top <= 3 || top == 0 && truths);
                Told told = of(0x0607, 0x0803).does(push[below] + "; " + push[top] + "; " + op + Edge.ABORT);
                if (fits) {
                    told.isTaken(push[below] + " and " + push[top] + " by " + op);
                    long puts = answersTruth ? 1 : top + 1;
                    of().gives(puts).does(push[below] + "; " + push[top] + "; " + op + "; 1")
                        .isTaken("it puts that by " + op);
                } else {
                    told.fails(push[below] + " and " + push[top] + " by " + op, 3, 2);
                }
            }
            boolean fits = top >= 1 && top <= 3 || top == 0 && truths;
            of(0x0607, 0x0803).does(push[top] + "; " + op).fails("one alone by " + op, fits ? 1 : 3, 1);
        }
        of().does("" + op).fails("none by " + op, 1, 0);
    }

    /** "24 .. 28 take two numbers (byte, long, wide) of one type: that". */
    private static void arithmetic() {
        for (int op = 24; op <= 28; op++) {
            twoNumbers(op, false, false);
        }
    }

    /** "29 30 31 also two truths". */
    private static void bitwise() {
        for (int op = 29; op <= 31; op++) {
            twoNumbers(op, true, false);
        }
    }

    /** "32, 33 a byte, then a number: that". */
    private static void shifts() {
        String[] push = {"8", "5", "6", "7", "10", "12 0", "12 1"};
        for (int op = 32; op <= 33; op++) {
            for (int top = 0; top < push.length; top++) {
                if (top != 1) {
                    of(0x0607, 0x0803).does("6; " + push[top] + "; " + op).fails("by " + push[top], 3, 2);
                    of(0x0607, 0x0803).does(push[top] + "; " + op).fails("by " + push[top] + " alone", 3, 1);
                }
                Told told = of(0x0607, 0x0803).does(push[top] + "; 5; " + op + Edge.ABORT);
                if (top >= 1 && top <= 3) {
                    told.isTaken(push[top] + " by a byte");
                    of().gives(top + 1).does(push[top] + "; 5; " + op + "; 1").isTaken("it puts that");
                } else {
                    told.fails(push[top] + " by a byte", 3, 2);
                }
            }
            of().does("5; " + op).fails("a byte alone", 1, 1);
            of().does("" + op).fails("none", 1, 0);
        }
    }

    /** "34 a truth: a truth". */
    private static void not() {
        of().gives(1).does("8; 34; 1").isTaken("a truth");
        of().gives(1).does("9; 34; 34; 1").isTaken("twice");
        String[] others = {"5", "6", "7", "10", "12 0", "12 1"};
        for (String other : others) {
            of(0x0607, 0x0803).does(other + "; 34").fails("not of " + other, 3, 1);
        }
        of().does("34").fails("none", 1, 0);
    }

    /** "36, 37 take two of one type, no references: 4 without drop: a truth". */
    private static void equal() {
        for (int op = 36; op <= 37; op++) {
            for (int own = 0; own < 16; own++) {
                long[] types = {Edge.structure(own), Edge.vector(Edge.structure(own))};
                for (long type : types) {
                    Told told = of(type, type).gives(1).does("12 0; 12 1; " + op + "; 1");
                    if ((own & 2) != 0) {
                        told.isTaken("two of " + own);
                    } else {
                        told.fails("two of " + own, 4, 2);
                    }
                    of(type).does("12 0; " + op).fails("one alone", 1, 1);
                    of(type).does("6; 12 0; " + op).fails("one and another", 3, 2);
                    of(type).does("12 0; 6; " + op).fails("another and one", 3, 2);
                }
            }
            for (long type : ALL_TYPES) {
                boolean refers = type == 0x080607 || type == 0x0903;
                Told told = of(type, type).gives(1).does("12 0; 12 1; " + op + "; 1");
                if (refers) {
                    told.fails("two references", 3, 2);
                    of(type).does("12 0; " + op).fails("one reference alone", 3, 1);
                    of(type).does("6; 12 0; " + op).fails("a reference topmost", 3, 2);
                    of(type).does("12 0; 6; " + op).fails("a reference below", 3, 2);
                } else {
                    told.isTaken("two of " + type);
                }
            }
            of().does("" + op).fails("none", 1, 0);
        }
    }

    /** "38 .. 41 two numbers of one type: a truth". */
    private static void order() {
        for (int op = 38; op <= 41; op++) {
            twoNumbers(op, false, true);
        }
    }

    /** "42 43 44 a number: a byte, long, wide." */
    private static void widths() {
        String[] numbers = {"5", "6", "7"};
        String[] others = {"8", "10", "12 0", "12 1"};
        for (int op = 42; op <= 44; op++) {
            for (String number : numbers) {
                puts("" + op, number + "; " + op, 0, op - 40);
            }
            for (String other : others) {
                of(0x0607, 0x0803).does(other + "; " + op).fails(other + " by " + op, 3, 1);
            }
            of().does("" + op).fails("none by " + op, 1, 0);
        }
    }

    private static String resourceTakes(int op, int s) {
        return op == 47 ? s == 7 ? "6; 8; 21 7" : s == 15 ? "10; 21 15" : "21 " + s : "10";
    }

    /** 47 .. 51: "15 when this has no RESOURCES", before 4. */
    private static void resourcesWanted() {
        for (int op = 47; op <= 51; op++) {
            for (int flags = 0; flags <= 7; flags++) {
                Told told = Edge.of(flags).does(resourceTakes(op, 8) + "; " + op + " 8" + Edge.ABORT);
                Told keyless = Edge.of(flags).does(resourceTakes(op, 0) + "; " + op + " 0" + Edge.ABORT);
                if (flags < 4) {
                    told.fails("flags " + flags + " by " + op, 15, 1);
                    keyless.fails("15 before 4, flags " + flags + " by " + op, 15, 1);
                } else {
                    told.isTaken("flags " + flags + " by " + op);
                    keyless.fails("no key by " + op, 4, 1);
                }
            }
        }
    }

    /** "4 when a has no key". */
    private static void keyWanted() {
        for (int op = 47; op <= 51; op++) {
            for (int s = 0; s < 32; s++) {
                String takes = resourceTakes(op, s);
                Told told = of().does(takes + "; " + op + " " + s + Edge.ABORT);
                if (s >= 8) {
                    told.isTaken("a key by " + op);
                } else {
                    told.fails("no key by " + op, 4, Edge.length(takes));
                }
            }
            of().does("10; " + op + " 32").fails("structure 32 by " + op, 16, 1);
            of().does("10; " + op + " -1").fails("structure -1 by " + op, 16, 1);
        }
        for (int op = 48; op <= 51; op++) {
            if (op != 49) {
                of().does("10; 51 15; 10; " + op + " 0").fails("4 before 6 by " + op, 4, 3);
            }
        }
    }

    /**
     * "48: 6 when a live one has its resources' origin; 50: when a live writing one has; 51: when any live one has."
     */
    private static void resourceOrigins() {
        for (int op = 48; op <= 51; op++) {
            for (int s = 8; s < 32; s++) {
                for (int borrowed = 15; borrowed <= 16; borrowed++) {
                    boolean same = s % 15 == borrowed % 15;
                    String use = "; 10; " + op + " " + s + Edge.ABORT;
                    told("reading " + borrowed, "10; 50 " + borrowed + use, same && (op == 48 || op == 51), 3);
                    told("writing " + borrowed, "10; 51 " + borrowed + use, same && op != 49, 3);
                    told("wrote " + borrowed, "10; 51 " + borrowed + "; 20" + use, same && (op == 48 || op == 51), 4);
                    told("dropped " + borrowed, "10; 51 " + borrowed + "; 0" + use, false, 0);
                }
            }
        }
        of().locals(0x080608).does("10; 50 8; 13 0; 10; 48 8").fails("a reading one in a local by 48", 6, 4);
        of().locals(0x080608).does("10; 50 8; 13 0; 10; 51 8").fails("a reading one in a local by 51", 6, 4);
        of().locals(0x080608).does("10; 50 8; 13 0; 10; 50 8" + Edge.ABORT).isTaken("a reading one in a local by 50");
        of().locals(0x090608).does("10; 51 8; 13 0; 10; 50 8").fails("a writing one in a local by 50", 6, 4);
        of(0x080608).does("10; 51 8" + Edge.ABORT).isTaken("one that was taken is none of its resources");
        of().does("10; 51 8; 21 8; 47 8" + Edge.ABORT).isTaken("47 asks no origin");
        of().does("10; 51 15; 17 15 0; 10; 50 15").fails("one inside it", 6, 4);
    }

    private static void told(String what, String code, boolean fails, int place) {
        if (fails) {
            of().does(code).fails(what + ": " + code, 6, place);
        } else {
            of().does(code).isTaken(what + ": " + code);
        }
    }

    /** "48 puts structure a, 49 a truth, 50 a reference with that origin, not inside, 51 a writing one." */
    private static void resourcePuts() {
        puts("48", "10; 48 8", 0, 0x0608);
        puts("49", "10; 49 8", 0, 1);
        puts("50", "10; 50 8", 0, 0x080608);
        puts("51", "10; 51 8", 0, 0x090608);
        of().does("21 8; 47 8; 1").isTaken("47 puts nothing");
        of().locals(0x09061f).does("10; 51 31; 13 0; 1").isTaken("of structure 31");
        for (int s = 8; s < 32; s++) {
            Told told = of().locals(0x080600 + s, 0x090600 + s);
            told.does("10; 50 " + s + "; 13 0; 12 0; 0; 10; 51 " + s + "; 13 1; 35; 1").isTaken("origins");
            Due.due("of 50 " + s, told.x.origins(3, 0), 1L << 48 + s % 15);
            Due.due("of 51 " + s, told.x.origins(8, 1), 1L << 48 + s % 15);
        }
        of().does("10; 48 8; 47 8; 10; 48 8; 47 8; 1").isTaken("to and fro");
    }

    /** 52: "takes b values of element type a (b 0 .. 64; 16 for others): a vector of it". */
    private static void vectorPack() {
        int[] counts = {0, 1, 2, 63, 64};
        for (int b : counts) {
            of().gives(0x0703).does(Edge.times(b, "6") + "52 0 " + b + "; 1").isTaken(b + " of them");
            of().does(Edge.times(b, "6") + "52 0 " + (b + 1)).fails(b + " for one more", b == 64 ? 16 : 1, b);
        }
        int[] others = {-1, 65, 66, 128, 256, Integer.MIN_VALUE, Integer.MAX_VALUE};
        for (int b : others) {
            of().does("52 0 " + b).fails("b " + b, 16, 0);
            of().does("64*6; 52 0 " + b).fails("b " + b + " with 64", 16, 64);
        }
        of().does("52 6 0").fails("element type 6", 16, 0);
        of().does("52 -1 0").fails("element type -1", 16, 0);
        of().gives(3, 0x0703).does("6; 6; 6; 52 0 2; 1").isTaken("the topmost ones");
        of().does("6; 8; 6; 52 0 3").fails("another between", 3, 3);
        of().does("8; 6; 6; 52 0 3").fails("another lowest", 3, 3);
        of().gives(1, 0x0703).does("8; 6; 6; 52 0 2; 1").isTaken("another below");
        of().gives(0x070600).does("21 0; 21 0; 52 2 2; 1").isTaken("values without abilities");
        puts("52", "6; 52 0 1", 0, 0x0703);
    }

    /** "(be it with a fifth 7)": it is a value of no TYPE that could be told. */
    private static void vectorFifthSeven() {
        of().does("52 3 0; 0; 1").isTaken("it has drop");
        of().does("52 3 0; 52 3 0; 36; 0; 1").isTaken("two of one type");
        of().does("52 3 0; 52 0 0; 36").fails("two of two types", 3, 2);
        of().locals(0x0707070703L).does("52 3 0; 13 0").fails("it is no four 7s", 3, 1);
        of().gives(0x0707070703L).does("52 3 0; 1").fails("nor given", 12, 1);
        of().does("52 3 0; 52 3 1").fails("nor an element", 3, 1);
        of(0x0707070703L).does("12 0; 52 3 1; 0; 1").isTaken("of one with four");
        of().does("52 3 0; 18").fails("no reference", 3, 1);
        Told bare = Edge.world().element(0x070707070600L).function(4).does("52 6 0; 0");
        bare.fails("without drop", 4, 1);
        Told drops = Edge.world().element(0x070707070602L).function(4).does("52 6 0; 0; 1");
        drops.isTaken("with drop");
        of().does("64*6; 52 3 0").fails("2 above 64", 2, 64);
    }

    /** 53: "takes any reference to such a vector: a long". */
    private static void vectorLength() {
        puts("53 of a reading one", "12 0; 53 0", 1, 3, 0x080703);
        puts("53 of a writing one", "12 0; 53 0", 1, 3, 0x090703);
        of(0x0703).does("12 0; 53 0").fails("the vector itself", 3, 1);
        of(0x080703).does("12 0; 53 1").fails("of another element", 3, 1);
        of(0x0803).does("12 0; 53 0").fails("to the element", 3, 1);
        of(0x08070703).does("12 0; 53 0").fails("to a vector of such", 3, 1);
        of(0x090707070703L).does("12 0; 53 3").fails("to four 7s, of four", 3, 1);
        of(0x090703).does("11 0; 20; 11 0; 53 0" + Edge.ABORT).isTaken("it need not be sole");
        of(0x090600).does("12 0; 53 6").fails("element type 6", 16, 1);
        of(0x090600).does("12 0; 53 -1").fails("element type -1", 16, 1);
    }

    /** "54 a long, then any, 55 a long, then a writing one: a reference (55 writing) to the element type". */
    private static void vectorBorrow() {
        puts("54 of a reading one", "12 0; 6; 54 0", 1, 0x0803, 0x080703);
        puts("54 of a writing one", "12 0; 6; 54 0", 1, 0x0803, 0x090703);
        puts("55", "12 0; 6; 55 0", 1, 0x0903, 0x090703);
        for (int op = 54; op <= 55; op++) {
            of(0x090703).does("6; 12 0; " + op + " 0").fails("the long not topmost by " + op, 3, 2);
            of(0x090703).does("12 0; 5; " + op + " 0").fails("a byte by " + op, 3, 2);
            of(0x090703).does("12 0; " + op + " 0").fails("no long by " + op, 3, 1);
            of(0x090703).does("6; " + op + " 0").fails("a long alone by " + op, 1, 1);
            of(0x090703).does("12 0; 6; " + op + " 1").fails("of another element by " + op, 3, 2);
            of(0x0703).does("12 0; 6; " + op + " 0").fails("the vector itself by " + op, 3, 2);
            of(0x090703).does("12 0; 6; " + op + " 6").fails("element type 6 by " + op, 16, 2);
            of(0x090703).does("12 0; 6; " + op + " -1").fails("element type -1 by " + op, 16, 2);
            of(0x090703).does("11 0; 20; 11 0; 6; " + op + " 0" + Edge.ABORT).isTaken("it need not be sole by " + op);
        }
        of(0x080703).does("12 0; 6; 55 0").fails("55 of a reading one", 7, 2);
        of(0x080703).does("12 0; 6; 55 1").fails("55 of a reading one to others", 3, 2);
        Told four = new Told().element(0x07070703).function(0).takes(0x090707070703L).locals(0x0907070703L);
        four.does("12 0; 6; 55 0; 13 1; 1").isTaken("out of four 7s");
    }

    /**
     * "56 the element type, then a writing one ..; 57 a writing one: ..: the element type; 58 two longs, then a
     * writing one".
     */
    private static void vectorChange() {
        of(0x090703).does("11 0; 6; 56 0; 1").isTaken("56");
        of(0x090703).does("6; 11 0; 56 0; 1").fails("56, the element not topmost", 3, 2);
        of(0x090703).does("11 0; 5; 56 0; 1").fails("56, another element", 3, 2);
        of(0x090702).does("11 0; 6; 56 0; 1").fails("56, a vector of others", 3, 2);
        of(0x090703).does("6; 56 0; 1").fails("56, the element alone", 1, 1);
        of(0x090703).does("6; 6; 56 0; 1").fails("56, no reference", 3, 2);
        of(0x090707070703L).does("11 0; 52 0 0; 56 3").fails("56, no fifth 7", 3, 2);
        of(0x09070600, 0x0600).does("11 0; 12 1; 56 2; 1").isTaken("56 asks no ability");
        of(0x09070600).gives(0x0600).does("11 0; 57 2; 1").isTaken("57 asks no ability");
        of(0x09070600).does("11 0; 6; 6; 58 2; 1").isTaken("58 asks no ability");
        puts("57", "12 0; 57 0", 1, 3, 0x090703);
        of(0x090703).does("12 0; 57 1").fails("57, a vector of others", 3, 1);
        of().does("57 0").fails("57, nothing", 1, 0);
        of(0x090703).does("12 0; 6; 6; 58 0; 1").isTaken("58");
        of(0x090703).does("12 0; 6; 58 0; 1").fails("58, one long", 3, 2);
        of(0x090703).does("12 0; 6; 5; 58 0; 1").fails("58, a byte topmost", 3, 3);
        of(0x090703).does("12 0; 5; 6; 58 0; 1").fails("58, a byte below", 3, 3);
        of(0x090703).does("6; 6; 12 0; 58 0; 1").fails("58, the longs not topmost", 3, 3);
        of(0x090703).does("6; 6; 58 0; 1").fails("58, no reference", 1, 2);
        of(0x090703).does("12 0; 6; 6; 58 1; 1").fails("58, a vector of others", 3, 3);
        for (int op = 56; op <= 58; op++) {
            String code = op == 56 ? "12 0; 6; 56" : op == 57 ? "12 0; 57" : "12 0; 6; 6; 58";
            int at = Edge.length(code) - 1;
            of(0x080703).does(code + " 0").fails("it does not write by " + op, 7, at);
            of(0x0703).does(code + " 0").fails("the vector itself by " + op, 3, at);
            of(0x090703).does(code + " 6").fails("element type 6 by " + op, 16, at);
            of(0x090703).does(code + " -1").fails("element type -1 by " + op, 16, at);
            of(0x090703).does(code + " 0 99" + Edge.ABORT).isTaken("b is not asked by " + op);
        }
    }

    /** 56, 57, 58: "6 when it is not sole". */
    private static void vectorSole() {
        String[] changes = {"11 0; 6; 56 0", "11 0; 57 0", "11 0; 6; 6; 58 0"};
        for (String change : changes) {
            int at = Edge.length(change) - 1;
            of(0x090703).does(change + Edge.ABORT).isTaken("sole: " + change);
            of(0x090703).does("11 0; " + change + Edge.ABORT).isTaken("beside one that writes: " + change);
            of(0x090703).does("11 0; 20; " + change).fails("beside one that reads: " + change, 6, at + 2);
            of(0x090703).does("11 0; 6; 55 0; " + change).fails("beside one inside: " + change, 6, at + 3);
            of(0x090703).does("11 0; 6; 54 0; " + change).fails("beside one that reads inside: " + change, 6, at + 3);
            of(0x090703, 0x080703).does("11 1; " + change + Edge.ABORT)
                .isTaken("beside one that does not meet: " + change);
            of(0x090703).locals(0x080703).does("11 0; 20; 13 1; " + change)
                .fails("one in a local: " + change, 6, at + 3);
            of(0x090703).does("11 0; 20; 0; " + change + Edge.ABORT).isTaken("one that was dropped: " + change);
        }
    }

    /** 59: "takes a vector of byte: one". */
    private static void hash() {
        puts("59", "12 0; 59", 1, 0x0702, 0x0702);
        of().gives(0x0702).does("52 1 0; 59; 59; 1").isTaken("one of one");
        of(0x0703).does("12 0; 59").fails("a vector of long", 3, 1);
        of(0x070702).does("12 0; 59").fails("a vector of such", 3, 1);
        of(0x080702).does("12 0; 59").fails("a reference to one", 3, 1);
        of().does("5; 59").fails("a byte", 3, 1);
        of().does("59").fails("none", 1, 0);
        of(0x0702).does("12 0; 59 99 99; 0; 1").isTaken("its operands are not asked");
        new Told().function(0).takes(0x0702).gives(0x0702).does("12 0; 59; 1").isTaken("no element type is wanted");
    }
}
