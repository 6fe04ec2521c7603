/** Edges of "COMING to instruction j from i": a method for each sentence, for j above i and for j not above i. */
public final class EdgeComingTest {
    private static final long INSIDE = Edge.INSIDE;

    public static void main(String[] args) {
        theFirstState();
        thereInBoth();
        goneInBoth();
        goneInTheFirst();
        goneInTheFurther();
        nineWhereOneComesFrom();
        aThirdState();
        threeAndFour();
        branchBeforeNext();
        originsOfBoth();
        insideIfInOne();
        goneHasNoOrigins();
        joinedLocalsEdges();
        stackIsTheNextOnes();
        backTheSame();
        backThereMustBeThere();
        backGoneOrDrop();
        backOriginsAmong();
        backInsideOnlyIf();
        backToItself();
        backLeavesTheState();
        backToAJoinedState();
        backBeforeNext();
        backLocalsEdges();
        nineBeforeOthers();
        Due.end();
    }

    private static Told of(long... takes) {
        return Edge.of(4, takes);
    }

    private static void state(String what, Told told, int i, int k, int there, long origins) {
        Due.due(what + ": there(" + i + ", " + k + ")", told.x.there(i, k), there);
        Due.due(what + ": origins(" + i + ", " + k + ")", told.x.origins(i, k), origins);
    }

    /** "the first state is j's". */
    private static void theFirstState() {
        Told told = of(1, 3, 0x0803).locals(3, 0x0803);
        told.does("12 1; 13 3; 12 2; 13 4; 12 0; 3 9; 35; 6; 45; 35; 1").isTaken("one state each");
        for (int i = 6; i < 11; i++) {
            state("truth", told, i, 0, 0, 0);
            state("moved", told, i, 1, 0, 0);
            state("moved", told, i, 2, 0, 0);
            state("set", told, i, 3, 1, 0);
            state("set", told, i, 4, 1, 1L << 42);
        }
        Told over = of(3).locals(3).does("12 0; 13 1; 2 5; 1; 1; 1");
        over.fails("what is jumped over is not come to", 10, 3);
        over = of(3).locals(3).does("12 0; 13 1; 2 3; 1").isTaken("a way by 2 alone");
        state("gone", over, 3, 0, 0, 0);
        state("there", over, 3, 1, 1, 0);
    }

    /** A local that is there in both is there, with or without drop. */
    private static void thereInBoth() {
        for (int own = 0; own < 16; own++) {
            long type = Edge.structure(own);
            Told told = of(1, type).gives(type).does("11 0; 3 4; 35; 35; 12 1; 1").isTaken("there in both, " + own);
            state("there in both", told, 4, 1, 1, 0);
            told = of(1, type).gives(type).does("11 0; 3 5; 35; 35; 2 5; 12 1; 1")
                .isTaken("there in both, by 2, " + own);
            state("there in both", told, 5, 1, 1, 0);
        }
    }

    private static void goneInBoth() {
        for (int own = 0; own < 16; own++) {
            long type = Edge.structure(own);
            Told told = of(1).locals(type).does("11 0; 3 4; 35; 35; 35; 6; 45").isTaken("gone in both, " + own);
            state("gone in both", told, 4, 1, 0, 0);
            of(1).locals(type).does("11 0; 3 4; 35; 35; 12 1").fails("gone in both, " + own, 5, 4);
        }
    }

    /**
     * "with any further one a local that is gone in one is gone (9 when it has no drop, and is there in the other)".
     */
    private static void goneInTheFirst() {
        for (int own = 0; own < 16; own++) {
            long type = Edge.structure(own);
            String make = own == 7 ? "6; 8; 21 7" : own == 15 ? "10; 21 15" : "21 " + own;
            int at = 2 + Edge.length(make);
            String code = "11 0; 3 " + (at + 1) + "; " + make + "; 13 1; ";
            Told told = of(1).locals(type).does(code + "6; 45");
            Told use = of(1).locals(type).does(code + "12 1");
            if ((own & 2) != 0) {
                told.isTaken("gone in the first, drop " + own);
                state("gone in the first", told, at + 1, 1, 0, 0);
                use.fails("gone in the first is gone, " + own, 5, at + 1);
            } else {
                told.fails("gone in the first, no drop " + own, 9, at);
            }
        }
    }

    private static void goneInTheFurther() {
        for (int own = 0; own < 16; own++) {
            long type = Edge.structure(own);
            int fields = own == 7 ? 2 : own == 15 ? 1 : 0;
            String unmake = "12 1; 22 " + own + "; " + Edge.times(fields, "0") + "35; ";
            int to = 2 + Edge.length(unmake);
            String code = "11 0; 3 " + to + "; " + unmake;
            Told told = of(1, type).does(code + "6; 45");
            Told use = of(1, type).does(code + "12 1");
            if ((own & 2) != 0) {
                told.isTaken("gone in the further, drop " + own);
                state("gone in the further", told, to, 1, 0, 0);
                state("there yet in the first", told, 2, 1, 1, 0);
                use.fails("gone in the further is gone, " + own, 5, to);
            } else {
                told.fails("gone in the further, no drop " + own, 9, to - 1);
            }
        }
    }

    /** The fault is found at the instruction from which one comes, not at j. */
    private static void nineWhereOneComesFrom() {
        of(1, 0x0600).does("11 0; 3 6; 12 1; 22 0; 35; 35; 6; 45").fails("from right before", 9, 5);
        of(1, 0x0600).does("11 0; 3 8; 12 1; 22 0; 2 8; 35; 35; 35; 6; 45").fails("from 2", 9, 4);
        of(1, 1, 0x0600).does("11 0; 3 7; 12 2; 22 0; 11 1; 3 7; 1; 6; 45").fails("from 3", 9, 5);
        of(1, 1, 0x0600).does("11 0; 4 7; 12 2; 22 0; 11 1; 4 7; 1; 6; 45").fails("from 4", 9, 5);
        of(1, 0x0600).does("11 0; 3 4; 12 1; 22 0; 6; 45").fails("from an operation that puts nothing", 9, 3);
        of(1).locals(0x0600).does("11 0; 3 4; 21 0; 13 1; 6; 45").fails("from 13", 9, 3);
    }

    /** "with any further one": the state of two is met by a third. */
    private static void aThirdState() {
        three("gone in the first alone", "12 1; 13 2", "12 2; 13 1", "35; 35", 0);
        three("gone in the second alone", "35; 35", "12 1; 13 2", "12 2; 13 1", 0);
        three("gone in the third alone", "35; 35", "35; 35", "12 1; 13 2", 0);
        three("gone in all", "12 1; 13 2", "35; 35", "35; 35", 0);
        three("gone in none", "35; 35", "12 1; 13 1", "35; 35", 1);
        Told third = of(1, 1, 3).locals(3, 0x0600);
        third.does("11 0; 3 8; 11 1; 3 8; 21 0; 13 4; 35; 35; 6; 45").fails("no drop, there in the third alone", 9, 7);
        third = of(1, 1, 0x0600).does("11 0; 3 8; 11 1; 3 8; 12 2; 22 0; 35; 35; 6; 45");
        third.fails("no drop, gone in the third alone", 9, 7);
        Told origins = of(1, 3, 3, 3).locals(0x0803);
        origins.does("14 1; 13 4; 11 0; 3 11; 14 2; 13 4; 11 0; 3 11; 14 3; 13 4; 35; 35; 1")
            .isTaken("origins of three");
        state("before", origins, 4, 4, 1, Edge.bits(1));
        state("between", origins, 8, 4, 1, Edge.bits(2));
        state("of three", origins, 11, 4, 1, Edge.bits(1, 2, 3));
        state("behind", origins, 12, 4, 1, Edge.bits(1, 2, 3));
        Told gone = of(1, 3, 3, 3).locals(0x0803);
        gone.does("14 1; 13 4; 11 0; 3 12; 12 4; 0; 11 0; 3 12; 14 3; 13 4; 35; 35; 35; 1")
            .isTaken("gone in the second");
        state("gone in the second", gone, 12, 4, 0, 0);
    }

    private static void three(String what, String first, String second, String third, int there) {
        Told told = of(1, 3).locals(3);
        told.does(first + "; 11 0; 3 12; " + second + "; 11 0; 3 12; " + third + "; 35; 35; 35; 1").isTaken(what);
        Due.due(what, told.x.there(12, 1), there);
    }

    /** "By 2, 3, 4 one comes to a": with the local states as they are then. */
    private static void threeAndFour() {
        for (int op = 3; op <= 4; op++) {
            Told told = of(1, 3).locals(0x0803).does("14 1; 13 2; 11 0; " + op + " 6; 12 2; 45; 35; 1");
            told.fails("what was taken is a reference", 3, 5);
            told = of(1, 3).locals(0x0803).does("14 1; 13 2; 12 0; " + op + " 6; 6; 45; 35; 1").isTaken("by " + op);
            state("the truth is gone on both ways", told, 4, 0, 0, 0);
            state("the truth is gone on both ways", told, 6, 0, 0, 0);
            state("a reference on both ways", told, 4, 2, 1, 2);
            state("a reference on both ways", told, 6, 2, 1, 2);
            Due.due("height", told.x.height(4), 0);
            Due.due("height", told.x.height(6), 0);
        }
    }

    /** "(for 3, 4 looked at before the next one)", be it the same. */
    private static void branchBeforeNext() {
        for (int op = 3; op <= 4; op++) {
            of(1, 0x0600).does("12 1; 22 0; 11 0; " + op + " 0").fails("9 before 11 by " + op, 9, 3);
            of(1).does("35; 11 0; " + op + " 0").fails("11 by " + op, 11, 2);
            Told same = of(1, 0x0600).does("11 0; " + op + " 2; 6; 45").isTaken("both are the next by " + op);
            state("no drop, there in both", same, 2, 1, 1, 0);
            of(1, 1, 0x0600).does("11 0; 3 8; 12 2; 22 0; 11 1; " + op + " 8; 35; 1; 6; 45").fails("9 by " + op, 9, 5);
        }
    }

    /** "references have the origins of both". */
    private static void originsOfBoth() {
        Told told = of(1, 3, 3).locals(0x0803).does("11 0; 3 5; 14 1; 13 3; 2 7; 14 2; 13 3; 35; 1")
            .isTaken("of two locals");
        state("of two locals", told, 7, 3, 1, Edge.bits(1, 2));
        state("and on", told, 8, 3, 1, Edge.bits(1, 2));
        told = of(1, 0x0803, 3).locals(0x0803).does("11 0; 3 5; 14 2; 13 3; 2 7; 11 1; 13 3; 35; 1");
        told.isTaken("of a local and what was taken");
        state("of a local and what was taken", told, 7, 3, 1, Edge.bits(2, 41));
        state("what was taken", told, 7, 1, 1, Edge.bits(41));
        told = of(1, 3).locals(0x0803).does("11 0; 3 5; 14 1; 13 2; 2 7; 14 1; 13 2; 35; 1").isTaken("the same");
        state("the same", told, 7, 2, 1, Edge.bits(1));
        told = of(1, 0x080608).locals(0x080608).does("11 0; 3 6; 10; 50 8; 13 2; 2 8; 11 1; 13 2; 35; 1");
        told.isTaken("of resources and what was taken");
        state("of resources and what was taken", told, 8, 2, 1, Edge.bits(41, 56));
        told = of(1, 3, 0x0803).does("14 1; 13 2; 11 0; 3 5; 35; 35; 1").isTaken("put before");
        state("put before", told, 5, 2, 1, Edge.bits(1));
        told = of(1, 3, 0x0803).does("11 0; 3 4; 14 1; 13 2; 35; 1").isTaken("put on one way");
        state("put on one way", told, 4, 2, 1, Edge.bits(1, 42));
        of(1, 3, 3).locals(0x0803).does("11 0; 3 5; 14 1; 13 3; 2 7; 14 2; 13 3; 12 1").fails("the first's bit", 6, 7);
        of(1, 3, 3).locals(0x0803).does("11 0; 3 5; 14 1; 13 3; 2 7; 14 2; 13 3; 12 2").fails("the second's bit", 6, 7);
        of(1, 3, 3).locals(0x0803).does("11 0; 3 5; 14 1; 13 3; 2 7; 14 2; 13 3; 12 0" + Edge.ABORT)
            .isTaken("no other's bit");
    }

    /** "and are inside if they are in one". */
    private static void insideIfInOne() {
        String plain = "11 1; 13 3; ";
        String in = "11 2; 16 7 0; 13 3; ";
        long both = Edge.bits(41, 42);
        inside("in none", plain + "35; ", plain, both & ~(1L << 42));
        inside("in the first", in, plain, both | INSIDE);
        inside("in the further", plain + "35; ", in, both | INSIDE);
        inside("in both", in, in, Edge.bits(42) | INSIDE);
        Told next = of(1, 0x0903, 0x090607).locals(0x0903).does("11 2; 17 7 0; 13 3; 11 0; 3 7; 11 1; 13 3; 35; 1");
        next.isTaken("in the first, to write");
        state("in the first, to write", next, 7, 3, 1, both | INSIDE);
    }

    private static void inside(String what, String further, String first, long due) {
        int firstLength = Edge.length(first);
        int from = 2 + Edge.length(further) + 1;
        int to = from + firstLength;
        Told told = of(1, 0x0803, 0x080607).locals(0x0803);
        told.does("11 0; 3 " + from + "; " + further + "2 " + to + "; " + first + "35; 1").isTaken(what);
        state(what, told, to, 3, 1, due);
        Told swapped = of(1, 0x0803, 0x080607).locals(0x0803);
        int second = 2 + firstLength + 1;
        int end = second + Edge.length(further);
        swapped.does("11 0; 3 " + second + "; " + first + "2 " + end + "; " + further + "35; 1").isTaken(what);
        state(what, swapped, end, 3, 1, due);
    }

    /** A reference that is gone in one is gone: its bits bar nothing. */
    private static void goneHasNoOrigins() {
        Told told = of(1, 3).locals(0x0803).does("11 0; 3 4; 14 1; 13 2; 12 1" + Edge.ABORT)
            .isTaken("gone in the first");
        state("gone in the first", told, 4, 2, 0, 0);
        told = of(1, 3).locals(0x0803).does("14 1; 13 2; 11 0; 3 7; 12 2; 0; 35; 12 1" + Edge.ABORT)
            .isTaken("gone in the further");
        state("gone in the further", told, 7, 2, 0, 0);
        told = of(1, 3, 3).locals(0x0803).does("14 1; 13 3; 11 0; 3 6; 12 3; 0; 14 2; 13 3; 12 1" + Edge.ABORT);
        told.isTaken("gone in the further, then put again");
        state("its origins are the new ones", told, 8, 3, 1, Edge.bits(2));
    }

    /** Local 0, and local 39. */
    private static void joinedLocalsEdges() {
        int[] locals = {0, 1, 7, 8, 38, 39};
        for (int k : locals) {
            int truth = k == 2 ? 3 : 2;
            Told told = edge(k, 0x0602, truth)
                .does("9; 13 " + truth + "; 11 " + truth + "; 3 6; 21 2; 13 " + k + "; 35; 1");
            told.isTaken("local " + k + " set on one way");
            Due.due("local " + k, told.x.there(6, k), k < 8 ? 1 : 0);
            told = edge(k, 0x0600, truth).does("9; 13 " + truth + "; 11 " + truth + "; 3 6; 21 0; 13 " + k + "; 6; 45");
            told.fails("local " + k + " set on one way, without drop", k < 8 ? 4 : 9, 5);
            told = edge(k, 0x0601, truth).does("9; 13 " + truth + (k < 8 ? "; 35; 35" : "; 21 1; 13 " + k)
                + "; 11 " + truth + "; 3 9; 12 " + k + "; 22 1; 35; 6; 45");
            told.fails("local " + k + " moved on one way, without drop", 9, 8);
            told = edge(k, 0x0803, truth).does("6; 13 4; 9; 13 " + truth + "; 14 4; 13 " + k + "; 11 " + truth
                + "; 3 10; 14 4; 13 " + k + "; 35; 1").isTaken("local " + k + " put on both ways");
            Due.due("local " + k, told.x.origins(10, k), 1L << 4);
            told = edge(k, 0x0803, truth).does("6; 13 4; 6; 13 5; 9; 13 " + truth + "; 14 4; 13 " + k + "; 11 " + truth
                + "; 3 12; 14 5; 13 " + k + "; 35; 1").isTaken("local " + k + " put on both ways, to others");
            Due.due("local " + k + " on the first", told.x.origins(10, k), 1L << 4);
            Due.due("local " + k + " of both", told.x.origins(12, k), 1L << 4 | 1L << 5);
        }
    }

    /** Forty locals: longs, but a truth at one and the type at k. */
    private static Told edge(int k, long type, int truth) {
        Told told = Edge.world().function(4);
        for (int other = 0; other < 40; other++) {
            long one = other == k ? type : other == truth ? 1 : 3;
            if (other < 8) {
                told.takes(one);
            } else {
                told.locals(one);
            }
        }
        return told;
    }

    /** Where no branch leads, the stack is what was left right before. */
    private static void stackIsTheNextOnes() {
        Told told = of(1).does("6; 6; 24; 11 0; 0; 45").isTaken("next by next");
        int[] due = {0, 1, 2, 1, 2, 1};
        for (int i = 0; i < due.length; i++) {
            Due.due("height(" + i + ")", told.x.height(i), due[i]);
        }
        told = of(1).does("11 0; 3 4; 6; 45; 6; 6; 45").isTaken("both begin with none");
        int[] ways = {0, 1, 0, 1, 0, 1, 2};
        for (int i = 0; i < ways.length; i++) {
            Due.due("height(" + i + ")", told.x.height(i), ways[i]);
        }
        of(1).does("11 0; 3 4; 6; 6; 45").fails("where a branch leads it is empty", 8, 4);
    }

    /** "To j not above i": just the same is taken. */
    private static void backTheSame() {
        long[] takes = {1, 3, 0x0600, 0x0803, 0x090607};
        for (int op = 2; op <= 4; op++) {
            String back = op == 2 ? "2 0" : "11 0; " + op + " 0; 6; 45";
            of(takes).locals(3, 0x0600, 0x0803).does("35; " + back).isTaken("the same by " + op);
            of(takes).locals(3, 0x0600, 0x0803).does("35; 12 1; 13 1; 12 2; 13 2; 12 3; 13 3; " + back)
                .isTaken("the same again by " + op);
        }
        of(1).does("35; 35; 35; 2 2; 1").fails("behind it", 10, 4);
        of(1).does("35; 35; 35; 2 2").isTaken("from 3 to 2");
        of().does("255*35; 2 0").isTaken("from 255 to 0");
        of().does("255*35; 2 254").isTaken("from 255 to 254");
        of().does("255*35; 2 255").isTaken("from 255 to itself");
        of().does("255*35; 2 256").fails("from 255 to none", 16, 255);
    }

    /** "9 unless each local that is there for j is there". */
    private static void backThereMustBeThere() {
        for (int own = 0; own < 16; own++) {
            long type = Edge.structure(own);
            int fields = own == 7 ? 2 : own == 15 ? 1 : 0;
            String unmake = "12 1; 22 " + own + "; " + Edge.times(fields, "0");
            for (int op = 2; op <= 4; op++) {
                String back = op == 2 ? "2 0" : "11 0; " + op + " 0; 6; 45";
                int at = Edge.length(unmake) + (op == 2 ? 0 : 1);
                of(1, type).does(unmake + back).fails("it is gone, " + own + " by " + op, 9, at);
                of(1, type).does("12 1; 13 1; " + back).isTaken("it is there again, " + own + " by " + op);
            }
        }
        of(1, 0x0803).does("12 1; 0; 2 0").fails("a reference is gone", 9, 2);
        of(1, 0x0903).does("12 1; 0; 2 0").fails("a writing one is gone", 9, 2);
        of(1, 3).does("12 1; 0; 35; 2 2").isTaken("it was gone there");
        of(1, 3).does("12 1; 0; 2 3; 35; 2 3").isTaken("it was gone there, too");
        of(1, 3).does("35; 12 1; 0; 2 1").fails("it is taken by that instruction itself", 9, 3);
        of(1, 3).does("35; 12 1; 0; 2 2").fails("led to with a value on the stack", 8, 2);
        of(1, 3).does("35; 12 1; 0; 35; 2 3").isTaken("behind that it was gone");
    }

    /** "and each one that is gone for j is gone, or has drop". */
    private static void backGoneOrDrop() {
        for (int own = 0; own < 16; own++) {
            long type = Edge.structure(own);
            String make = own == 7 ? "6; 8; 21 7" : own == 15 ? "10; 21 15" : "21 " + own;
            for (int op = 2; op <= 4; op++) {
                String back = op == 2 ? "2 0" : "11 0; " + op + " 0; 6; 45";
                int at = Edge.length(make) + (op == 2 ? 1 : 2);
                Told there = of(1).locals(type).does(make + "; 13 1; " + back);
                if ((own & 2) != 0) {
                    there.isTaken("it is there, with drop, " + own + " by " + op);
                    state("it was gone", there, 0, 1, 0, 0);
                } else {
                    there.fails("it is there, without drop, " + own + " by " + op, 9, at);
                }
                of(1).locals(type).does("35; " + back).isTaken("it is gone, " + own + " by " + op);
                of(1).locals(type).does(make + "; 13 1; 12 1; 6; 45").isTaken("it is gone again, " + own);
            }
        }
        Told reference = of(1, 3).locals(0x0803).does("14 1; 13 2; 2 0").isTaken("a reference has drop");
        state("it was gone", reference, 0, 2, 0, 0);
        Told vector = of(1).locals(0x070600).does("52 2 0; 13 1; 2 0").fails("a vector without drop", 9, 2);
        Due.due("height", vector.x.height(0), -1);
    }

    /** "with origins among its". */
    private static void backOriginsAmong() {
        of(1, 3).locals(0x0803).does("14 1; 13 2; 35; 14 1; 13 2; 2 2").isTaken("the same one");
        of(1, 3, 3).locals(0x0803).does("14 1; 13 3; 35; 14 2; 13 3; 2 2").fails("another one", 9, 5);
        of(1, 0x0803, 0x0803).does("11 1; 13 2; 2 0").fails("another that was taken", 9, 2);
        of(1, 0x0803, 0x0803).does("11 2; 13 1; 12 1; 13 2; 6; 45").isTaken("to and fro");
        String two = "11 0; 3 5; 14 1; 13 4; 2 7; 14 2; 13 4; ";
        for (int k = 1; k <= 2; k++) {
            Told told = of(1, 3, 3, 3).locals(0x0803).does(two + "35; 14 " + k + "; 13 4; 2 7").isTaken("one of two");
            state("two", told, 7, 4, 1, Edge.bits(1, 2));
            state("one of two", told, 10, 4, 1, Edge.bits(k));
        }
        of(1, 3, 3, 3).locals(0x0803).does(two + "35; 2 7").isTaken("both of two");
        of(1, 3, 3, 3).locals(0x0803).does(two + "35; 14 3; 13 4; 2 7").fails("none of two", 9, 10);
        of(1, 3, 3).locals(0x0803).does("14 1; 13 3; 35; 11 0; 3 8; 14 2; 13 3; 2 8; 2 2").fails("two for one", 9, 8);
        of(1, 3, 3).locals(0x0803).does("14 1; 13 3; 35; 11 0; 3 8; 14 1; 13 3; 2 8; 2 2").isTaken("one for one");
        Edge.of(0, 3).gives(0x0803).does("6; 45").function(0).takes(0x0803).does("6; 23 0; 13 0; 2 0")
            .fails("no origins, but inside", 9, 3);
        of(1, 0x0803).locals(0x0803).does("11 1; 13 2; 35; 11 1; 13 2; 2 2").isTaken("what was taken");
        of().locals(0x080608, 0x080609).does("10; 50 8; 13 0; 35; 10; 50 8; 13 0; 2 3").isTaken("the same resources");
        of().locals(0x08060f, 0x08061e).does("10; 50 15; 13 0; 35; 10; 50 15; 13 0; 10; 50 30; 13 1; 2 3")
            .isTaken("and others");
    }

    /** "and inside only if it is so for j". */
    private static void backInsideOnlyIf() {
        String in = "11 1; 16 7 0; 13 2; ";
        Told world = Edge.of(0, 0x0803).gives(0x0803).does("6; 45").function(0).takes(1, 0x0803).locals(0x0803);
        world.does("11 1; 13 2; 35; 11 1; 23 0; 13 2; 2 2").fails("inside, not so for j", 9, 6);
        world = Edge.of(0, 0x0803).gives(0x0803).does("6; 45").function(0).takes(1, 0x0803).locals(0x0803);
        world.does("11 1; 23 0; 13 2; 35; 11 1; 23 0; 13 2; 2 3").isTaken("inside, so for j");
        world = Edge.of(0, 0x0803).gives(0x0803).does("6; 45").function(0).takes(1, 0x0803).locals(0x0803);
        world.does("11 1; 23 0; 13 2; 35; 11 1; 13 2; 2 3").isTaken("not inside, so for j");
        state("inside for j", world, 3, 2, 1, Edge.bits(41, 63));
        state("not inside", world, 6, 2, 1, Edge.bits(41));
        of(1, 0x080607).locals(0x0803).does(in + "35; " + in + "2 3").isTaken("a field, a field");
        of(1, 0x080607).locals(0x0803).does("35; " + in + "2 0").isTaken("gone for j");
        world = Edge.of(0, 0x0803).gives(0x0803).does("6; 45").function(0).takes(0x0803).does("12 0; 23 0; 13 0; 2 0");
        world.fails("inside, not so at first", 9, 3);
        world = Edge.of(0, 0x0803).gives(0x0803).does("6; 45").function(0).takes(1, 0x0803);
        world.does("11 0; 3 5; 12 1; 23 0; 13 1; 35; 11 1; 23 0; 13 1; 2 5").isTaken("inside in one for j");
    }

    /** "j not above i": i itself. */
    private static void backToItself() {
        of().does("2 0").isTaken("0 to 0");
        of(1, 0x0600, 0x0903).locals(0x0600, 0x0803).does("35; 2 1").isTaken("1 to 1");
        of().does("6; 2 1").fails("with a value", 8, 1);
        Told told = of(3, 0x0803).locals(3).does("12 0; 13 2; 2 2").isTaken("2 to 2");
        state("moved", told, 2, 0, 0, 0);
        state("kept", told, 2, 1, 1, 1L << 41);
        state("set", told, 2, 2, 1, 0);
        of(1).does("35; 11 0; 3 2; 1").fails("3 to itself, its truth there", 8, 2);
    }

    /** A way back changes no state. */
    private static void backLeavesTheState() {
        Told told = of(1, 3, 3).locals(3, 0x0803);
        told.does("11 0; 3 5; 14 1; 13 4; 2 7; 14 2; 13 4; 35; 14 1; 13 4; 6; 13 3; 2 7")
            .isTaken("back with less, and with more");
        state("origins of two", told, 7, 4, 1, Edge.bits(1, 2));
        state("gone", told, 7, 3, 0, 0);
        state("origins of one", told, 12, 4, 1, Edge.bits(1));
        state("there", told, 12, 3, 1, 0);
        told = of(1, 3).locals(0x0803).does("35; 14 1; 13 2; 11 0; 3 0; 12 2; 0; 2 0").isTaken("back twice");
        state("gone", told, 0, 2, 0, 0);
        state("put", told, 5, 2, 1, Edge.bits(1));
    }

    private static void backToAJoinedState() {
        Told told = of(1, 3).locals(3).does("11 0; 3 4; 12 1; 13 2; 35; 2 4").isTaken("gone in one");
        state("1 is gone in one", told, 4, 1, 0, 0);
        state("2 is gone in one", told, 4, 2, 0, 0);
        of(1, 3).locals(3).does("11 0; 3 4; 12 1; 13 2; 6; 13 1; 2 4").isTaken("there too much");
        of(1, 3).locals(3).does("11 0; 3 4; 35; 35; 12 1; 0; 2 4").fails("there in both, then gone", 9, 6);
    }

    private static void backBeforeNext() {
        of(1, 3).does("12 1; 0; 11 0; 3 0").fails("9 before 11", 9, 3);
        of(1, 3).does("12 1; 0; 11 0; 3 0; 1").fails("9 though there is a next", 9, 3);
        of(1, 3).does("12 1; 0; 11 0; 4 0; 1").fails("9 by 4", 9, 3);
        Told told = of(1, 3).does("35; 11 0; 3 0; 12 1; 0; 1").isTaken("then on");
        state("as it was", told, 3, 1, 1, 0);
        state("gone behind", told, 4, 1, 0, 0);
    }

    private static void backLocalsEdges() {
        int[] locals = {0, 1, 7, 8, 38, 39};
        for (int k : locals) {
            int truth = k == 2 ? 3 : 2;
            String set = k < 8 ? "35; 35; " : "6; 13 " + k + "; ";
            edge(k, 3, truth).does(set + "35; 12 " + k + "; 0; 2 2").fails("local " + k + " is gone", 9, 5);
            edge(k, 3, truth).does(set + "35; 12 " + k + "; 13 " + k + "; 2 2").isTaken("local " + k + " is there");
            edge(k, 0x0600, truth).does((k < 8 ? "12 " + k + "; 22 0; " : "35; 35; ") + "35; 21 0; 13 " + k + "; 2 2")
                .fails("local " + k + " is there too much", 9, 5);
            edge(k, 0x0602, truth).does((k < 8 ? "12 " + k + "; 22 2; " : "35; 35; ") + "35; 21 2; 13 " + k + "; 2 2")
                .isTaken("local " + k + " is there too much, with drop");
            edge(k, 0x0803, truth).does("6; 13 4; 6; 13 5; 14 4; 13 " + k + "; 35; 14 5; 13 " + k + "; 2 6")
                .fails("local " + k + " has another origin", 9, 9);
            edge(k, 0x0803, truth).does("6; 13 4; 6; 13 5; 14 4; 13 " + k + "; 35; 14 4; 13 " + k + "; 2 6")
                .isTaken("local " + k + " has the same origin");
        }
    }

    /** 9 stands behind the operation's own, and before 11. */
    private static void nineBeforeOthers() {
        of(1, 0x0600).does("11 0; 3 4; 12 1; 0; 6; 45").fails("4 before 9", 4, 3);
        of(1, 0x0600).does("11 0; 3 5; 12 1; 22 0; 24; 6; 45").fails("1 before 9", 1, 4);
        of(1, 3).does("12 1; 0; 8; 2 0").fails("8 before 9", 8, 3);
        of(1, 3).does("12 1; 0; 2 99").fails("16 before 9", 16, 2);
        of(1, 0x0600).does("11 0; 3 6; 12 1; 22 0; 6; 35; 6; 45").fails("9 before 8 of the next", 9, 5);
        of(1, 0x0602).does("11 0; 3 6; 12 1; 0; 6; 35; 6; 45").fails("8 of the next", 8, 6);
    }
}
