/** Promises 10 and 11: what each operation takes and puts, and the faults 1, 2, 3, 7 that come of it. */
public final class OperationTest {
    private static final long S0 = 0x0600;
    private static final long S3 = 0x0603;
    private static final long[] NOTHING = {};

    public static void main(String[] args) {
        constants();
        locals();
        references();
        structuresAndCalls();
        numbers();
        resources();
        vectors();
        steering();
        notWriting();
        tooHigh();
        manySevens();
        Due.end();
    }

    /**
     * Structures of many abilities (4 has drop alone, 5 copy alone, 16 the resources' origin of 1), element types,
     * and function 0, which takes a long and a truth and gives a byte and an address.
     */
    static Told world() {
        Told told = new Told().structure(7, 3, 1).structure(12, 3).structure(0).structure(15, 5).structure(2)
            .structure(1).structure(3).structure(11);
        for (int k = 8; k < 16; k++) {
            told.structure(0);
        }
        told.structure(8).element(3).element(2).element(0x0602).element(0x0707070703L).element(S0);
        return told.function(0).takes(3, 1).gives(2, 5).does("6; 45");
    }

    /** A function with resources whose locals 0 .. 7 are there: a structure, references of all kinds, a resource. */
    private static Told withLocals() {
        return world().function(4).takes(S0, 0x090600, 0x080600, 0x090703, 0x080703, 0x0903, 0x0803, S3);
    }

    private static String joined(String[] parts, int from, int wrongAt, String wrong) {
        StringBuilder code = new StringBuilder();
        for (int k = from; k < parts.length; k++) {
            code.append(k == wrongAt ? wrong : parts[k]).append("; ");
        }
        return code.toString();
    }

    /** The operation with its operands, the topmost last; what it puts, the topmost first, fits locals of these types. */
    private static void row(String operation, String operands, String wrong, long... puts) {
        String[] parts = operands.isEmpty() ? new String[0] : operands.split("; *");
        String what = operands + " | " + operation;
        StringBuilder taken = new StringBuilder();
        for (int k = 0; k < puts.length; k++) {
            taken.append("13 ").append(8 + k).append("; ");
        }
        Told told = withLocals().locals(puts).does("10; " + operands + ";" + operation + ";" + taken + "6; 45");
        told.isTaken(what);
        Due.due(what + ": height before", told.x.height(parts.length + 1), parts.length + 1);
        Due.due(what + ": height behind", told.x.height(parts.length + 2), puts.length + 1);
        for (int from = 1; from <= parts.length; from++) {
            withLocals().does(joined(parts, from, -1, "") + operation)
                .fails(what + " without the lowest " + from, 1, parts.length - from);
        }
        for (int at = 0; at < parts.length && !wrong.isEmpty(); at++) {
            withLocals().does("10;" + joined(parts, 0, at, wrong) + operation)
                .fails(what + " with another at " + at, 3, parts.length + 1);
        }
    }

    private static void constants() {
        row("5", "", "", 2);
        row("6", "", "", 3);
        row("7", "", "", 4);
        row("8", "", "", 1);
        row("9", "", "", 1);
        row("10", "", "", 5);
        row("46", "", "", 5);
        row("35", "", "");
        row("0", "5", "");
        row("0", "12 1", "");
    }

    private static void locals() {
        row("11 0", "", "", S0);
        row("11 1", "", "", 0x090600);
        row("12 0", "", "", S0);
        row("12 2", "", "", 0x080600);
        row("14 0", "", "", 0x080600);
        row("15 0", "", "", 0x090600);
        row("13 0", "12 0", "10");
        row("13 5", "12 5", "6");
    }

    private static void references() {
        row("16 0 1", "12 1", "12 0", 0x0801);
        row("16 0 0", "12 2", "12 6", 0x0803);
        row("17 0 1", "12 1", "12 5", 0x0901);
        row("17 0 0", "12 1", "12 6", 0x0903);
        row("18", "12 5", "6", 3);
        row("18", "12 2", "12 0", S0);
        row("19", "6; 12 5", "10");
        row("19", "12 0; 12 1", "6");
        row("20", "12 1", "6", 0x080600);
        row("20", "12 5", "12 0", 0x0803);
    }

    private static void structuresAndCalls() {
        row("21 0", "6; 8", "10", S0);
        row("21 2", "", "", 0x0602);
        row("22 0", "12 0", "12 7", 1, 3);
        row("22 3", "12 7", "12 0", 5);
        row("23 0", "6; 8", "10", 5, 2);
        withLocals().function(0).takes(0x0903).does("1").function(0).takes(0x0803).does("12 0; 23 2; 1")
            .fails("a call wants just the type", 3, 1);
        withLocals().function(0).takes(0x0803).does("1").function(0).takes(0x0903).does("12 0; 23 2; 1")
            .fails("a call wants just the type, not writing", 3, 1);
    }

    private static void numbers() {
        String[] push = {"5", "6", "7"};
        for (int type = 2; type <= 4; type++) {
            String one = push[type - 2];
            for (int op = 24; op <= 31; op++) {
                row("" + op, one + "; " + one, "10", type);
            }
            for (int op = 38; op <= 41; op++) {
                row("" + op, one + "; " + one, "8", 1);
            }
            row("32", one + "; 5", "8", type);
            row("33", one + "; 5", "10", type);
            for (int op = 42; op <= 44; op++) {
                row("" + op, one, "8", op - 40);
                row("" + op, one, "12 0", op - 40);
            }
        }
        for (int op = 29; op <= 31; op++) {
            row("" + op, "8; 8", "10", 1);
        }
        for (int op = 24; op <= 44; op++) {
            boolean truths = op >= 29 && op <= 31 || op >= 34 && op <= 37;
            if (!truths) {
                withLocals().does("8; 8; " + op).fails("truths by " + op, 3, 2);
            }
        }
        row("34", "8", "6", 1);
        for (int op = 36; op <= 37; op++) {
            row("" + op, "8; 8", "6", 1);
            row("" + op, "46; 10", "6", 1);
            row("" + op, "11 0; 12 0", "6", 1);
            row("" + op, "52 0 0; 52 0 0", "6", 1);
            withLocals().does("12 1; 11 1; " + op).fails("gone by " + op, 5, 1);
            withLocals().does("11 1; 11 1; " + op).fails("references by " + op, 3, 2);
            withLocals().does("11 1; " + op).fails("a reference is looked at before what lies below by " + op, 3, 1);
            withLocals().does("8; 6; " + op).fails("two types by " + op, 3, 2);
        }
        withLocals().does("10; 24").fails("the topmost is looked at first", 3, 1);
        withLocals().does("6; 24").fails("then the next one", 1, 1);
        withLocals().does("6; 6; 32").fails("a shift by a long", 3, 2);
        withLocals().does("6; 5; 24").fails("a long and a byte", 3, 2);
    }

    private static void resources() {
        row("47 3", "12 7", "12 0");
        row("48 3", "10", "5", S3);
        row("49 3", "10", "5", 1);
        row("50 3", "10", "5", 0x080603);
        row("51 3", "10", "5", 0x090603);
    }

    private static void vectors() {
        row("52 0 3", "6; 6; 6", "10", 0x0703);
        row("52 0 0", "", "", 0x0703);
        row("52 4 1", "12 0", "6", 0x070600);
        row("53 0", "12 3", "6", 3);
        row("53 0", "12 4", "12 2", 3);
        row("54 0", "12 3; 6", "10", 0x0803);
        row("54 0", "12 4; 6", "12 6", 0x0803);
        row("55 0", "12 3; 6", "12 1", 0x0903);
        row("56 0", "12 3; 6", "12 1");
        row("57 0", "12 3", "12 1", 3);
        row("58 0", "12 3; 6; 6", "12 1");
        row("59", "52 1 0", "52 0 0", 0x0702);
        withLocals().does("12 3; 53 1").fails("the length of a vector of others", 3, 1);
    }

    private static void steering() {
        world().function(0).does("8; 3 2; 1").isTaken("when a truth is so");
        world().function(0).does("8; 4 2; 1").isTaken("when a truth is not so");
        world().function(0).does("2 1; 1").isTaken("branch");
        for (int op = 3; op <= 4; op++) {
            world().function(0).does(op + " 1; 1").fails("without a truth", 1, 0);
            world().function(0).does("6; " + op + " 2; 1").fails("by a long", 3, 1);
            world().function(0).does("6; 8; " + op + " 3; 1").fails("more than a truth", 8, 2);
        }
        world().function(0).does("6; 2 2; 1").fails("branch with a stack", 8, 1);
        world().function(0).does("45").fails("abort without a long", 1, 0);
        world().function(0).does("5; 45").fails("abort by a byte", 3, 1);
        world().function(0).does("5; 6; 45").isTaken("abort leaves what it will");
        world().function(0).takes(0x0602).does("6; 45").isTaken("abort with a local that has no drop");
        world().function(0).does("0").fails("drop without any", 1, 0);
    }

    private static void notWriting() {
        withLocals().does("12 2; 17 0 0").fails("17", 7, 1);
        withLocals().does("12 6; 17 0 0").fails("17 to another", 3, 1);
        withLocals().does("6; 12 6; 19").fails("19", 7, 2);
        withLocals().does("12 6; 19").fails("19 looks at the reference first", 7, 1);
        withLocals().does("12 2; 20").fails("20", 7, 1);
        withLocals().does("12 4; 6; 55 0").fails("55", 7, 2);
        withLocals().does("12 4; 6; 55 1").fails("55 to another", 3, 2);
        withLocals().does("12 4; 6; 56 0").fails("56", 7, 2);
        withLocals().does("12 4; 6; 6; 56 0").fails("56 of what is no reference", 3, 3);
        withLocals().does("12 4; 57 0").fails("57", 7, 1);
        withLocals().does("12 6; 57 0").fails("57 to no vector", 3, 1);
        withLocals().does("12 4; 6; 6; 58 0").fails("58", 7, 3);
        withLocals().does("12 2; 13 1").fails("13 knows no 7", 3, 1);
    }

    private static void tooHigh() {
        world().function(0).does("64*6; 45").isTaken("64 values");
        world().function(0).does("65*6; 45").fails("65 values", 2, 64);
        world().function(0).does("63*6; 24; 62*24; 6; 45").fails("all are taken", 1, 125);
        world().function(0).takes(3).does("64*6; 11 0").fails("65 by a copy", 2, 64);
        world().function(0).takes(3).does("64*6; 12 0").fails("65 by a move", 2, 64);
        world().function(0).takes(3).does("64*6; 14 0").fails("65 by a reference", 2, 64);
        world().function(0).takes(S0).does("62*6; 12 0; 22 0; 8; 0; 45").fails("62, then two, then one", 2, 64);
        world().function(0).takes(S0).does("62*6; 12 0; 22 0; 0; 45").isTaken("62, then two of a structure");
        world().function(0).takes(S0).does("63*6; 12 0; 22 0; 0; 45").fails("63, then two of a structure", 2, 64);
        world().function(0).does("63*6; 8; 23 0; 0; 0; 45").isTaken("64, a call takes two, and gives two");
        world().function(0).does("64*6; 52 0 0").fails("65 by an empty vector", 2, 64);
        world().function(0).does("64*6; 52 0 64; 0; 6; 45").isTaken("a vector of 64");
        world().function(0).gives(3).does("6; 1").function(0).does("63*6; 23 1; 45").isTaken("64 by a call");
        world().function(0).gives(3).does("6; 1").function(0).does("64*6; 23 1; 45").fails("65 by a call", 2, 64);
        world().function(0).does("64*6; 35; 45").isTaken("nothing is put");
    }

    private static void manySevens() {
        world().function(0).does("52 3 0; 0; 6; 45").isTaken("a fifth 7 is dropped");
        world().function(0).does("52 3 0; 52 3 0; 36; 0; 6; 45").isTaken("a fifth 7 is compared");
        world().function(0).does("52 3 0; 6; 36").fails("a fifth 7 is no long", 3, 2);
        world().function(0).takes(0x090707070703L).does("12 0; 53 3").fails("no reference is to a fifth 7", 3, 1);
        Told deep = new Told().structure(15).element(0x070707070600L).function(0).does("52 0 0; 0; 6; 45");
        deep.isTaken("a fifth 7 of a structure");
        Told five = new Told().element(0x0707070703L).element(0x07070703).function(0).takes(0x0707070703L)
            .does("15 0; 52 1 0; 19; 1");
        five.fails("19 wants the reference topmost", 3, 2);
        new Told().element(0x0707070703L).element(0x07070703).function(0).takes(0x0707070703L).locals(0x0907070703L)
            .does("15 0; 6; 55 1; 13 1; 1").isTaken("a reference into four 7s");
    }
}
