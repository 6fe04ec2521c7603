/** Promises 11 to 14: what is told of the function looked at last. */
public final class StateTest {
    private static final long INSIDE = 1L << 63;

    public static void main(String[] args) {
        heights();
        locals();
        originsOfKinds();
        originsJoined();
        originsByCalls();
        originsOfLast();
        whatIsForgotten();
        whatIsKept();
        wrongPlaces();
        Due.end();
    }

    private static Told world(int flags) {
        return OperationTest.world().function(flags);
    }

    private static void heights(Told told, int... due) {
        for (int i = 0; i < due.length; i++) {
            Due.due("height(" + i + ")", told.x.height(i), due[i]);
        }
        Due.due("height beyond", told.x.height(due.length), -1);
    }

    private static void theres(Told told, int k, int... due) {
        for (int i = 0; i < due.length; i++) {
            Due.due("there(" + i + ", " + k + ")", told.x.there(i, k), due[i]);
        }
        Due.due("there beyond", told.x.there(due.length, k), -1);
    }

    private static void origins(Told told, int k, long... due) {
        for (int i = 0; i < due.length; i++) {
            Due.due("origins(" + i + ", " + k + ")", told.x.origins(i, k), due[i]);
        }
        Due.due("origins beyond", told.x.origins(due.length, k), 0);
    }

    private static long bit(int... origins) {
        long bits = 0;
        for (int origin : origins) {
            bits |= 1L << origin;
        }
        return bits;
    }

    private static void heights() {
        heights(world(0).does("6; 8; 21 0; 22 0; 0; 35; 45").isTaken("heights"), 0, 1, 2, 1, 2, 1, 1);
        heights(world(0).takes(1).does("11 0; 3 5; 6; 6; 45; 6; 45").isTaken("each way"), 0, 1, 0, 1, 2, 0, 1);
        heights(world(0).does("64*6; 45").isTaken("to 64"), heightsTo64());
        heights(world(0).does("5; 6; 45; 1").fails("one never come to", 10, 3));
    }

    private static int[] heightsTo64() {
        int[] due = new int[65];
        for (int i = 0; i < due.length; i++) {
            due[i] = i;
        }
        return due;
    }

    private static void locals() {
        Told told = world(0).takes(1, 3).locals(3).does("12 1; 13 2; 11 0; 3 6; 12 2; 0; 11 0; 12 0; 0; 0; 1");
        told.isTaken("locals");
        theres(told, 0, 1, 1, 1, 1, 1, 1, 1, 1, 0, 0, 0);
        theres(told, 1, 1, 0, 0, 0, 0, 0, 0, 0, 0, 0, 0);
        theres(told, 2, 0, 0, 1, 1, 1, 0, 0, 0, 0, 0, 0);
        Due.due("there of no local", told.x.there(0, 3), -1);
        Due.due("there of local -1", told.x.there(0, -1), -1);
        Due.due("origins of what is no reference", told.x.origins(0, 0), 0);
    }

    private static void originsOfKinds() {
        Told told = world(4).takes(0x0600, 0x090600).locals(0x080600, 0x0903, 0x090610, 0x0803)
            .does("14 0; 13 2; 11 1; 17 0 0; 13 3; 10; 51 16; 13 4; 12 3; 20; 13 5; 11 2; 13 2; 12 2; 0; 35; 1");
        told.isTaken("origins of kinds");
        long taken = bit(41);
        origins(told, 0, new long[17]);
        origins(told, 1, taken, taken, taken, taken, taken, taken, taken, taken, taken, taken, taken, taken, taken,
            taken, taken, taken, taken);
        origins(told, 2, 0, 0, 1, 1, 1, 1, 1, 1, 1, 1, 1, 1, 1, 1, 0, 0, 0);
        long in = taken | INSIDE;
        origins(told, 3, 0, 0, 0, 0, 0, in, in, in, in, 0, 0, 0, 0, 0, 0, 0, 0);
        origins(told, 4, 0, 0, 0, 0, 0, 0, 0, 0, 1L << 49, 1L << 49, 1L << 49, 1L << 49, 1L << 49, 1L << 49, 1L << 49,
            1L << 49, 1L << 49);
        origins(told, 5, 0, 0, 0, 0, 0, 0, 0, 0, 0, 0, 0, in, in, in, in, in, in);
        Told vector = world(0).takes(0x0703).locals(0x0803, 0x0903).does("14 0; 6; 54 0; 13 1; 15 0; 6; 55 0; 13 2; 1");
        vector.fails("a borrowed one is not borrowed to write", 6, 4);
        vector = world(0).takes(0x0703).locals(0x0803, 0x0903).does("15 0; 6; 54 0; 13 1; 12 1; 0; 15 0; 6; 55 0; 13 2; 1");
        vector.isTaken("elements");
        Due.due("an element is inside", vector.x.origins(4, 1), 1 | INSIDE);
        Due.due("an element to write is inside", vector.x.origins(10, 2), 1 | INSIDE);
    }

    private static void originsJoined() {
        Told told = world(0).takes(1, 0x0600, 3).locals(0x0803)
            .does("11 0; 3 6; 14 1; 16 0 0; 13 3; 2 8; 14 2; 13 3; 35; 1");
        told.isTaken("origins joined");
        Due.due("by the first way", told.x.origins(5, 3), bit(1) | INSIDE);
        Due.due("by the second way, gone yet", told.x.origins(7, 3), 0);
        Due.due("by both", told.x.origins(8, 3), bit(1, 2) | INSIDE);
        Due.due("and on", told.x.origins(9, 3), bit(1, 2) | INSIDE);
        Told other = world(0).takes(1, 0x0600, 3).locals(0x0803)
            .does("11 0; 4 6; 14 2; 13 3; 2 9; 1; 14 1; 16 0 0; 13 3; 35; 1");
        other.fails("one never come to", 10, 5);
        other = world(0).takes(1, 0x0600, 3).locals(0x0803).does("11 0; 4 5; 14 2; 13 3; 2 8; 14 1; 16 0 0; 13 3; 35; 1");
        other.isTaken("the further one is inside");
        Due.due("joined with one inside", other.x.origins(8, 3), bit(1, 2) | INSIDE);
        Told gone = world(0).takes(1, 3).locals(0x0803).does("11 0; 3 4; 14 1; 13 2; 11 0; 0; 1").isTaken("gone in one");
        origins(gone, 2, 0, 0, 0, 0, 0, 0, 0);
        theres(gone, 2, 0, 0, 0, 0, 0, 0, 0);
        Told again = world(0).takes(1, 3).locals(0x0803)
            .does("14 1; 13 2; 11 0; 3 6; 12 2; 0; 11 0; 0; 1").isTaken("gone in the further one");
        origins(again, 2, 0, 0, 2, 2, 2, 0, 0, 0, 0);
        Told three = world(0).takes(1, 3, 3, 3).locals(0x0803)
            .does("14 1; 13 4; 11 0; 3 12; 14 2; 13 4; 11 0; 3 12; 14 3; 13 4; 2 12; 1; 35; 1");
        three.fails("one behind a branch", 10, 11);
        three = world(0).takes(1, 3, 3, 3).locals(0x0803)
            .does("14 1; 13 4; 11 0; 3 10; 14 2; 13 4; 11 0; 3 10; 14 3; 13 4; 35; 1").isTaken("three ways");
        Due.due("of three ways", three.x.origins(10, 4), bit(1, 2, 3));
        Due.due("of one way", three.x.origins(6, 4), bit(2));
        Told back = world(0).takes(0x0803).does("35; 2 0").isTaken("back");
        origins(back, 0, bit(40), bit(40));
    }

    private static void originsByCalls() {
        long[] takes = {0x0803, 0x0903, 3, 0x0903};
        long[] gives = {0x0803, 0x0903, 3, 0x080600};
        Told told = OperationTest.world().function(0).takes(takes).gives(gives).does("6; 45").function(0)
            .takes(3, 0x0803, 0x0903, 0x0903).locals(gives)
            .does("11 1; 11 2; 6; 12 3; 23 1; 13 7; 13 6; 13 5; 13 4; 1").isTaken("a call's origins");
        Due.due("of all", told.x.origins(9, 4), bit(41, 42, 43) | INSIDE);
        Due.due("of the writing ones", told.x.origins(9, 5), bit(42, 43) | INSIDE);
        Due.due("what is no reference", told.x.origins(9, 6), 0);
        Due.due("of all, another type", told.x.origins(9, 7), bit(41, 42, 43) | INSIDE);
        Told none = OperationTest.world().function(0).takes(3).gives(0x0803, 0x0903).does("6; 45").function(0)
            .locals(0x0803, 0x0903).does("6; 23 1; 13 1; 13 0; 1").isTaken("a call without references");
        Due.due("of none", none.x.origins(4, 0), INSIDE);
        Due.due("of no writing one", none.x.origins(4, 1), INSIDE);
    }

    /** The last local, the last one taken, the last structures. */
    private static void originsOfLast() {
        Told told = new Told();
        for (int k = 0; k < 32; k++) {
            told.structure(8);
        }
        told.function(4).takes(3, 3, 3, 3, 3, 3, 3, 0x0803);
        for (int k = 0; k < 28; k++) {
            told.locals(3);
        }
        told.locals(0x08061d, 0x08061f, 0x0803, 3);
        told.does("10; 50 29; 13 36; 10; 50 31; 13 37; 6; 13 39; 14 39; 13 38; 1").isTaken("the last ones");
        Due.due("taken as a reference at 7", told.x.origins(0, 7), bit(47));
        Due.due("structure 29", told.x.origins(10, 36), bit(48 + 14));
        Due.due("structure 31", told.x.origins(10, 37), bit(49));
        Due.due("local 39", told.x.origins(10, 38), bit(39));
        Due.due("there(10, 39)", told.x.there(10, 39), 1);
        Due.due("there(10, 40)", told.x.there(10, 40), -1);
        Due.due("origins(10, 40)", told.x.origins(10, 40), 0);
    }

    private static Told looked() {
        Told told = world(0).takes(0x0803).does("6; 45").isTaken("looked at");
        nowTold("looked at", told, true);
        return told;
    }

    private static void nowTold(String what, Told told, boolean isTold) {
        Due.due(what + ": height(1)", told.x.height(1), isTold ? 1 : -1);
        Due.due(what + ": there(1, 0)", told.x.there(1, 0), isTold ? 1 : -1);
        Due.due(what + ": origins(1, 0)", told.x.origins(1, 0), isTold ? bit(40) : 0);
    }

    private static void whatIsForgotten() {
        for (int what = 0; what < 3; what++) {
            Told told = looked();
            Due.due("list", told.x.list(what, 3), what == 0 ? 2 : 1);
            nowTold("got a type in list " + what, told, false);
            Due.due("place is kept", told.x.place(), -2);
            told.isTaken("looked at again");
            nowTold("looked at again", told, true);
        }
        Told other = new Told().function(0).takes(3, 0x0903).does("6; 45").isTaken("a local that writes");
        other.function(0).takes(3).locals(0x0803).does("14 0; 13 1; 11 0; 0; 1").isTaken("in the next it does not write");
        Told told = looked().does("1");
        nowTold("got an instruction", told, false);
        told.fails("looked at again", 10, 2);
        nowTold("has a fault", told, false);
        told.does("35");
        Due.due("place is kept", told.x.place(), 2);
        int[] none = {-1, 2, Integer.MAX_VALUE};
        for (int f : none) {
            told = looked();
            Due.due("check(" + f + ")", told.x.check(f), -101);
            nowTold("looked at none", told, false);
        }
        told = looked().function(0);
        Due.due("one without instructions", told.x.check(2), -101);
        nowTold("looked at one without instructions", told, false);
        told = looked();
        Due.due("another", told.x.check(0), 0);
        Due.due("another's second local", told.x.there(1, 1), 1);
        Due.due("another's third local", told.x.there(1, 2), -1);
        Due.due("another's first local is no reference", told.x.origins(1, 0), 0);
    }

    private static void whatIsKept() {
        Told told = looked();
        Due.due("a wrong list", told.x.list(3, 3), -1);
        Due.due("a wrong type", told.x.list(0, 0), -1);
        Due.due("a wrong instruction", told.x.instruction(60, 0, 0), -1);
        nowTold("got what is BAD", told, true);
        told.structure(7, 3).element(3);
        nowTold("a structure and an element type came", told, true);
        told.function(0).takes(3).locals(3).does("6; 6; 6; 45");
        nowTold("another function got something", told, true);
        Told full = world(0).takes(3, 3, 3, 3, 3, 3, 3, 3).does("254*35; 6; 45").isTaken("all full");
        Due.due("a list that is full", full.x.list(0, 3), -3);
        Due.due("instructions that are full", full.x.instruction(1, 0, 0), -3);
        Due.due("got what is FULL", full.x.height(255), 1);
        Told earlier = new Told().function(0).takes(0x0803).does("6; 45").function(0).does("1");
        Due.due("an earlier one", earlier.x.check(0), 0);
        nowTold("an earlier one", earlier, true);
        earlier.locals(3).gives(3).takes(3).does("1");
        nowTold("the latest got something, not that one", earlier, true);
    }

    private static void wrongPlaces() {
        Told told = looked();
        int[] none = {-1, 2, 255, 256, Integer.MIN_VALUE, Integer.MAX_VALUE};
        for (int i : none) {
            Due.due("height(" + i + ")", told.x.height(i), -1);
            Due.due("there(" + i + ", 0)", told.x.there(i, 0), -1);
            Due.due("origins(" + i + ", 0)", told.x.origins(i, 0), 0);
            if (i != 0) {
                Due.due("there(1, " + i + ")", told.x.there(1, i), -1);
                Due.due("origins(1, " + i + ")", told.x.origins(1, i), 0);
            }
        }
        Due.due("there(1, 64)", told.x.there(1, 64), -1);
        Due.due("origins(1, 64)", told.x.origins(1, 64), 0);
    }
}
