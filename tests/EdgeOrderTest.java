import java.util.List;

/**
 * Edges of LOOKING: "over its instructions in order ..; the first fault ends it",
     then the numbers "in this order": 10, 8,
 * 16, what is taken (1, 3, 7), what else is told, 2; and 11 behind. A method for each sentence.
 */
public final class EdgeOrderTest {
    private static final String[] KINDS = {"8", "5", "6", "7", "10", "12 0", "12 1", "12 2", "12 3", "12 4", "12 5",
        "12 6"};

    public static void main(String[] args) {
        firstFaultEndsIt();
        instructionsInOrder();
        eachNumber();
        notComeTo();
        notComeToFirst();
        ledToWithAStack();
        ledToBeforeNames();
        ledToFromWhere();
        namesBeforeTaking();
        operandsNotAsked();
        nothingLeft();
        nothingLeftOfWhatWasThere();
        topmostFirst();
        takingBeforeTold();
        sevenAlone();
        otherTypes();
        toldBeforeHigh();
        high();
        highByNone();
        highBeforeNext();
        noNext();
        looksShareNothing();
        lookingAgain();
        Due.end();
    }

    private static Told of(long... takes) {
        return Edge.of(4, takes);
    }

    /** Locals 0 .. 6: a structure, a vector, references to both of both kinds, one to a long that writes. */
    private static Told withKinds() {
        return of(0x0607, 0x0703, 0x080607, 0x090607, 0x080703, 0x090703, 0x0903);
    }

    private static void firstFaultEndsIt() {
        of().does("35; 0; 24; 11 9; 2 99").fails("the first of many", 1, 1);
        of().does("35; 6; 24; 0; 11 9").fails("the first of many", 1, 2);
        of().does("6; 45; 0; 0").fails("the first of many", 10, 2);
        of().does("0").fails("at 0", 1, 0);
        of().does("254*35; 6; 35").fails("at 255", 11, 255);
        of().does("255*35; 0").fails("at 255", 1, 255);
    }

    /** Over its instructions in order: each once, whatever way one goes. */
    private static void instructionsInOrder() {
        of(1, 3).does("11 0; 3 5; 12 1; 24; 1; 12 1; 0; 1").fails("the next first", 1, 3);
        of(1, 3).does("11 0; 3 5; 12 1; 0; 1; 12 1; 0; 0").fails("then where it leads", 1, 7);
        of(1, 3).does("35; 11 0; 3 0; 0").fails("a way back is not gone", 1, 3);
    }

    /** Each number is answered as -why, at its place. */
    private static void eachNumber() {
        of().does("35; 0").fails("1", 1, 1);
        of().does("64*6; 6").fails("2", 2, 64);
        of().does("6; 8; 24").fails("3", 3, 2);
        of(0x0600).does("11 0").fails("4", 4, 0);
        of(3).does("12 0; 12 0").fails("5", 5, 1);
        of(3).does("15 0; 12 0").fails("6", 6, 1);
        of(0x0803).does("12 0; 20").fails("7", 7, 1);
        of().does("6; 2 0").fails("8", 8, 1);
        of(3).does("12 0; 0; 2 0").fails("9", 9, 2);
        of().does("1; 1").fails("10", 10, 1);
        of().does("35").fails("11", 11, 0);
        of().does("6; 1").fails("12", 12, 1);
        of(0x0600).does("1").fails("13", 13, 0);
        of(3).takes().gives(0x0803).does("14 0; 1").fails("14", 14, 1);
        Edge.of(3).does("10; 49 8").fails("15", 15, 1);
        of().does("21 32").fails("16", 16, 0);
    }

    /** "10 when no state has come to it from before it." */
    private static void notComeTo() {
        String[] ends = {"1", "6; 45", "2 0"};
        for (String end : ends) {
            int at = Edge.length(end);
            of().does(end + "; 1").fails("behind " + end, 10, at);
            of().does(end + "; 2 " + at).fails("by itself alone, behind " + end, 10, at);
            of().does(end + "; 35; 2 " + at).fails("from behind alone, behind " + end, 10, at);
        }
        of().does("2 2; 35; 1").fails("over it", 10, 1);
        of().does("8; 3 4; 2 4; 35; 1").fails("over it, twice", 10, 3);
        of().does("8; 4 3; 1; 1").isTaken("from before, by 4");
        of().does("2 1; 1").isTaken("from right before, by 2");
        of().does("2 2; 2 1; 1").fails("2 has no way from before to 1", 10, 1);
        of().does("2 3; 1; 35; 2 1").fails("the first that is not come to", 10, 1);
        of().does("2 0").isTaken("one comes to 0 first");
        of().does("2 255; " + Edge.times(254, "35") + "1").fails("over many", 10, 1);
        of().does("8; 3 255; 252*35; 1; 1").isTaken("from far before");
    }

    /** 10 stands before 8, 16 and all else. */
    private static void notComeToFirst() {
        of().does("6; 6; 45; 35; 2 3").fails("10 before 8: what was left is no stack here", 10, 3);
        of().does("6; 6; 45; 0; 2 3").fails("10 before 8 and 1", 10, 3);
        of().does("1; 11 9").fails("10 before 16", 10, 1);
        of().does("1; 52 0 65").fails("10 before 16, b", 10, 1);
        of().does("1; 2 99").fails("10 before 16, a branch", 10, 1);
        of().does("1; 0").fails("10 before 1", 10, 1);
        of().does("1; 35").fails("10 before 11", 10, 1);
        of(0x0600).does("6; 45; 1").fails("10 before 13", 10, 2);
    }

    /** "8 when it is where some branch leads, and the stack is not empty." */
    private static void ledToWithAStack() {
        for (int op = 2; op <= 4; op++) {
            String back = op == 2 ? "2 1" : "8; " + op + " 1; 1";
            of().does("6; 0; " + back).fails("a value, led to by " + op, 8, 1);
            of().does("35; 35; " + back).isTaken("none, led to by " + op);
        }
        of().does("8; 3 3; 6; 0; 1").fails("from both sides", 8, 3);
        of().does("8; 3 3; 35; 35; 1").isTaken("from both sides, none on it");
        of().does("8; 3 4; 6; 0; 1").isTaken("empty again where one is led");
        of().does("63*6; 6; 63*24; 0; 2 1").fails("the first of those led to", 8, 1);
        of().does("64*6; 35; 45; 1").fails("not led to", 10, 66);
        of().does("64*6; 35; 45; 2 64").fails("64 values", 8, 64);
        of(0x0600).does("12 0; 35; 6; 45; 2 1").fails("one value without drop", 8, 1);
        of().does("8; 3 1; 1").fails("where it leads itself, its truth on the stack", 8, 1);
        of().does("8; 4 1; 1").fails("where it leads itself, its truth on the stack", 8, 1);
    }

    private static void ledToBeforeNames() {
        String[] wrong = {"11 9", "2 99", "16 0 0", "23 5", "52 0 65", "53 6", "47 32", "21 -1"};
        for (String one : wrong) {
            of().does("6; " + one + "; 2 1").fails("8 before 16 by " + one, 8, 1);
            of().does("35; " + one + "; 2 1").fails("16 by " + one, 16, 1);
        }
        of().does("8; 24; 2 1").fails("8 before 3", 8, 1);
        of().does("6; 24; 2 1").fails("8 before 1", 8, 1);
        of().does("6; 1; 2 1").fails("8 before 12", 8, 1);
        of(0x0600).does("12 0; 0; 2 1").fails("8 before 4", 8, 1);
        of().does("64*6; 6; 2 64").fails("8 before 2", 8, 64);
    }

    /** "some branch": one behind, one before, one that is never come to; not one that leads to no instruction. */
    private static void ledToFromWhere() {
        of().does("6; 35; 45; 2 1").fails("a branch never come to", 8, 1);
        of().does("6; 35; 45; 3 1").fails("a branch never come to", 8, 1);
        of().does("6; 35; 45; 4 1").fails("a branch never come to", 8, 1);
        of().does("6; 35; 45; 1 1").fails("1 is no branch", 10, 3);
        of().does("6; 35; 45; 5 1").fails("5 is no branch", 10, 3);
        of().does("6; 35; 45; 23 1").fails("23 is no branch", 10, 3);
        of().does("6; 35; 45; 2 257").fails("257 is not 1", 10, 3);
        of().does("6; 35; 45; 2 -255").fails("-255 is not 1", 10, 3);
        of().does("6; 35; 45; 2 0 1").fails("b leads nowhere", 10, 3);
        Told told = of().does("6; 35; 45").isTaken("not led to");
        told.does("2 1").fails("led to now", 8, 1);
    }

    /** "16 when an operand names no ..": before anything is taken. */
    private static void namesBeforeTaking() {
        String[] wrong = {"2 2", "3 2", "4 2", "11 0", "12 0", "13 0", "14 0", "15 0", "16 32 0", "16 7 2",
            "16 0 0", "17 32 0", "17 7 2", "17 0 0", "21 32", "22 32", "23 1", "47 32", "48 32", "49 32", "50 32",
            "51 32", "52 6 0", "52 0 65", "52 0 -1", "53 6", "54 6", "55 6", "56 6", "57 6", "58 6"};
        for (String one : wrong) {
            of().does(one + "; 1").fails("16 before 1 by " + one, 16, 0);
            Edge.of(0).does("8; " + one.replace(" 2", " 3") + "; 1").fails("16 before 3, 8, 15 by " + one, 16, 1);
            of().does("64*6; " + (one.matches("[234] 2") ? one + "00" : one)).fails("16 before 2 by " + one, 16, 64);
        }
    }

    /** "an operand": one that an operation has no use for names nothing, whatever it is. */
    private static void operandsNotAsked() {
        int[][] operands = {{-1, -1}, {32, 65}, {99, -99}, {Integer.MIN_VALUE, Integer.MAX_VALUE}};
        String[] neither = {"6; 0", "6; 6; 45", "5", "6", "7", "8", "9", "10", "46", "35", "11 2; 18",
            "6; 11 2; 19", "11 2; 20", "6; 6; 24", "6; 6; 28", "8; 8; 29", "8; 8; 31", "6; 5; 32", "6; 5; 33",
            "8; 34", "8; 8; 36", "8; 8; 37", "6; 6; 38", "6; 6; 41", "6; 42", "6; 43", "6; 44", "52 1 0; 59"};
        String[] first = {"11 0", "12 0", "6; 13 0", "14 0", "15 0", "21 0", "21 0; 22 0", "23 0", "21 16; 47 16",
            "10; 48 16", "10; 49 16", "10; 50 16", "10; 51 16", "11 3; 53 0", "11 3; 6; 54 0", "11 3; 6; 55 0",
            "11 3; 6; 56 0", "11 3; 57 0", "11 3; 6; 6; 58 0"};
        for (int[] ab : operands) {
            for (String code : neither) {
                free(code + " " + ab[0] + " " + ab[1]);
            }
            for (String code : first) {
                free(code + " " + ab[1]);
            }
            of().does("1 " + ab[0] + " " + ab[1]).isTaken("1 asks no operand");
            of().does("2 1 " + ab[1] + "; 1").isTaken("2 asks no b");
            of().does("8; 3 2 " + ab[1] + "; 8; 4 4 " + ab[1] + "; 1").isTaken("3 and 4 ask no b");
        }
    }

    private static void free(String code) {
        Told told = Edge.of(4).function(4).takes(3, 0x090607, 0x0903, 0x090703).does(code + Edge.ABORT);
        if (code.startsWith("6; 6; 45")) {
            told.fails("operands not asked: " + code, 10, 3);
        } else {
            told.isTaken("operands not asked: " + code);
        }
    }

    /** "1 when nothing is left". */
    private static void nothingLeft() {
        String[] one = {"0", "3 1", "4 1", "45", "13 0", "16 7 0", "17 7 0", "18", "19", "20", "22 0", "34", "36",
            "37", "42", "43", "44", "47 8", "48 8", "49 8", "50 8", "51 8", "52 0 1", "53 0", "54 0", "55 0",
            "56 0", "57 0", "58 0", "59", "21 7", "21 15", "24", "25", "26", "27", "28", "29", "30", "31", "32",
            "33", "38", "39", "40", "41"};
        for (String op : one) {
            of(3).does(op + "; 1").fails("nothing there by " + op, 1, 0);
        }
        String[] two = {"6; 24", "6; 28", "8; 29", "8; 31", "5; 32", "5; 33", "6; 36", "6; 37", "7; 38", "5; 41",
            "6; 54 0", "6; 55 0", "6; 56 0", "6; 58 0", "6; 6; 58 0", "6; 52 0 2", "8; 21 7", "12 0; 19",
            "63*6; 52 0 64"};
        for (String code : two) {
            of(0x0903).does(code).fails("too little by " + code, 1, Edge.length(code) - 1);
        }
        Told called = of(3, 1).does("6; 45").function(4).does("23 0");
        called.fails("a call, nothing there", 1, 0);
        of(3, 1).does("6; 45").function(4).does("8; 23 0").fails("a call, too little", 1, 1);
    }

    /** What was taken before is not there still. */
    private static void nothingLeftOfWhatWasThere() {
        String[] ops = {"0", "45", "16 7 0", "18", "20", "34", "36", "37", "42", "53 0", "24", "29", "38"};
        for (String op : ops) {
            of(0x0903).does("12 0; 0; " + op).fails("a reference was there, by " + op, 1, 2);
            of(0x0903).does("6; 0; " + op).fails("a long was there, by " + op, 1, 2);
            of(0x0903).does("8; 0; " + op).fails("a truth was there, by " + op, 1, 2);
        }
        of(1, 3).does("11 0; 3 5; 6; 6; 45; 0").fails("what the other way left is not there", 1, 5);
        of(1, 3).does("6; 6; 6; 45").isTaken("what is left of three");
    }

    /** "the topmost first": what lies lower is not looked at when the topmost is wrong. */
    private static void topmostFirst() {
        String[] right = {"19", "24", "32", "36", "38", "54 0", "55 0", "56 0", "58 0", "21 7", "52 5 2"};
        String[] wrongTop = {"6", "8", "6", "12 3", "8", "8", "8", "8", "8", "6", "6"};
        for (int k = 0; k < right.length; k++) {
            withKinds().does(wrongTop[k] + "; " + right[k]).fails("3, not 1, by " + right[k], 3, 1);
        }
        of(3, 1).does("6; 45").function(4).does("6; 23 0").fails("3, not 1, by 23", 3, 1);
        of(3, 1).does("6; 45").function(4).does("8; 6; 23 0").fails("the topmost of two wrong ones", 3, 2);
        withKinds().does("12 2; 19").fails("7, not 1, by 19", 7, 1);
        withKinds().does("12 4; 6; 8; 58 0").fails("3, not 7, by 58", 3, 3);
        withKinds().does("12 4; 8; 6; 58 0").fails("the second one's 3, not 7, by 58", 3, 3);
        withKinds().does("12 4; 8; 56 0").fails("3, not 7, by 56", 3, 2);
        withKinds().does("12 4; 8; 55 0").fails("3, not 7, by 55", 3, 2);
        of(0x0803).does("8; 12 0; 19").fails("7, not 3, by 19", 7, 2);
    }

    /** "Then the operation takes ..; then what else is told". */
    private static void takingBeforeTold() {
        Edge.of(0).does("48 0").fails("1 before 15", 1, 0);
        Edge.of(0).does("6; 50 0").fails("3 before 15", 3, 1);
        Edge.of(0).does("10; 47 0").fails("3 before 15 by 47", 3, 1);
        of(0x0600).does("13 0").fails("1 before 4 by 13", 1, 0);
        of(0x0600).does("6; 13 0").fails("3 before 4 by 13", 3, 1);
        of(3).does("15 0; 8; 13 0").fails("3 before 6 by 13", 3, 2);
        of(0x090600).does("6; 12 0; 19").fails("3 before 4 by 19", 3, 2);
        of(0x0903).does("11 0; 20; 8; 12 0; 19").fails("3 before 6 by 19", 3, 4);
        of(0x090703).does("11 0; 20; 11 0; 8; 56 0").fails("3 before 6 by 56", 3, 4);
        of(0x090703, 0x0903).does("11 0; 20; 11 1; 57 0").fails("3 before 6 by 57", 3, 3);
        of(0x0600, 0x0601).does("12 0; 12 1; 36").fails("3 before 4 by 36", 3, 2);
        of(0x0600).does("12 0; 36").fails("1 before 4 by 36", 1, 1);
        of(0x080600).does("12 0; 19").fails("7 before 4", 7, 1);
        of(0x0803, 0x0803).does("6; 12 0; 19").fails("7 before all that is told", 7, 2);
        Edge.of(4, 3).does("6; 45").function(0).does("23 0").fails("1 before 15 by 23", 1, 0);
        Edge.of(4, 3).does("6; 45").function(0).does("8; 23 0").fails("3 before 15 by 23", 3, 1);
        Edge.of(0, 3, 0x0903).does("6; 45").function(0).takes(0x0903).does("8; 11 0; 11 0; 20; 13 1")
            .locals(0x0803).does("23 0").fails("3 before 6 by 23", 3, 5);
    }

    /** "7, by 17, 19, 20, 55 .. 58 alone, when it is a reference to the right one that does not write". */
    private static void sevenAlone() {
        withKinds().does("12 2; 17 7 0").fails("17", 7, 1);
        withKinds().does("6; 12 2; 19").fails("19", 7, 2);
        withKinds().does("12 2; 20").fails("20", 7, 1);
        withKinds().does("12 4; 6; 55 0").fails("55", 7, 2);
        withKinds().does("12 4; 6; 56 0").fails("56", 7, 2);
        withKinds().does("12 4; 57 0").fails("57", 7, 1);
        withKinds().does("12 4; 6; 6; 58 0").fails("58", 7, 3);
        withKinds().does("12 4; 17 7 0").fails("17, to another", 3, 1);
        withKinds().does("12 2; 6; 55 0").fails("55, to another", 3, 2);
        withKinds().does("12 2; 6; 56 0").fails("56, to another", 3, 2);
        withKinds().does("12 2; 57 0").fails("57, to another", 3, 1);
        withKinds().does("12 4; 57 1").fails("57, to a vector of others", 3, 1);
        withKinds().does("12 2; 6; 6; 58 0").fails("58, to another", 3, 3);
        withKinds().does("12 0; 20").fails("20, no reference", 3, 1);
        withKinds().does("12 0; 19").fails("19, no reference", 3, 1);
        withKinds().does("12 1; 57 0").fails("57, the vector itself", 3, 1);
        withKinds().does("12 0; 17 7 0").fails("17, the structure itself", 3, 1);
        withKinds().does("12 2; 16 7 0; 0; 12 2" + Edge.ABORT).fails("16 needs no writing one; then it is gone", 5, 3);
        withKinds().does("12 2; 18" + Edge.ABORT).isTaken("18 needs no writing one");
        withKinds().does("12 4; 53 0" + Edge.ABORT).isTaken("53 needs no writing one");
        withKinds().does("12 4; 6; 54 0" + Edge.ABORT).isTaken("54 needs no writing one");
        withKinds().does("12 3; 16 7 0; 12 5; 6; 54 0; 11 6; 18" + Edge.ABORT).isTaken("nor a reading one");
        withKinds().does("12 2; 13 3").fails("13 says 3", 3, 1);
        withKinds().does("12 3; 13 2").fails("13 says 3, the other way", 3, 1);
        withKinds().gives(0x090607).does("12 2; 1").fails("1 says 12", 12, 1);
        Edge.of(4, 0x0903).does("6; 45").function(4).takes(0x0803).does("12 0; 23 0").fails("23 says 3", 3, 1);
        Edge.of(4, 0x0803).does("6; 45").function(4).takes(0x0903).does("12 0; 23 0").fails("23 says 3 too", 3, 1);
    }

    /** "3 when it is of another type": each kind of value, for each that an operation takes topmost. */
    private static void otherTypes() {
        topmostIsOneOf("3 0; 4 0; 34", "8");
        topmostIsOneOf("45; 54 0; 55 0; 56 0; 58 0; 52 0 1; 13 7", "6");
        topmostIsOneOf("48 16; 49 16; 50 16; 51 16; 21 15", "10");
        topmostIsOneOf("21 7; 56 5; 52 5 1", "8");
        topmostIsOneOf("32; 33; 56 1; 52 1 1", "5");
        topmostIsOneOf("24; 25; 26; 27; 28; 38; 39; 40; 41; 42; 43; 44", "5", "6", "7");
        topmostIsOneOf("29; 30; 31", "8", "5", "6", "7");
        topmostIsOneOf("36; 37", "8", "5", "6", "7", "10", "12 0", "12 1");
        topmostIsOneOf("22 7; 13 0; 56 4; 52 4 2", "12 0");
        topmostIsOneOf("13 1", "12 1");
        topmostIsOneOf("16 7 0; 16 7 1", "12 2", "12 3");
        topmostIsOneOf("17 7 0; 17 7 1", "12 3");
        topmostIsOneOf("18", "12 2", "12 3", "12 4", "12 5", "12 6");
        topmostIsOneOf("19; 20", "12 3", "12 5", "12 6");
        topmostIsOneOf("13 2", "12 2");
        topmostIsOneOf("13 3", "12 3");
        topmostIsOneOf("53 0", "12 4", "12 5");
        topmostIsOneOf("57 0", "12 5");
        topmostIsOneOf("59; 22 6; 47 16");
    }

    /**
     * Of kinds that fit nothing is asked here but that it is not 3 (nor 7); of references that but write not, 7 is
     * due.
     */
    private static void topmostIsOneOf(String operations, String... fitting) {
        List<String> fits = List.of(fitting);
        for (String op : operations.split("; ")) {
            for (String kind : KINDS) {
                Told told = withKinds().locals(3).does(kind + "; " + op);
                int why = told.x.check(0);
                boolean unwriting = op.matches("(17|57) .*") && kind.equals(op.startsWith("17") ? "12 2" : "12 4")
                    || op.matches("19|20") && kind.matches("12 [24]");
                if (fits.contains(kind)) {
                    Due.due(op + " takes " + kind, why == -3 || why == -7 ? 1 : 0, 0);
                } else {
                    told.fails(op + " takes no " + kind, unwriting ? 7 : 3, 1);
                }
            }
        }
    }

    /** "then it puts on the stack: 2": behind all that is told. */
    private static void toldBeforeHigh() {
        of(3).does("12 0; 63*6; 12 0").fails("5 before 2 by 12", 5, 64);
        of(3).does("12 0; 63*6; 11 0").fails("5 before 2 by 11", 5, 64);
        of(3).does("12 0; 63*6; 14 0").fails("5 before 2 by 14", 5, 64);
        of(3).does("12 0; 63*6; 15 0").fails("5 before 2 by 15", 5, 64);
        of(0x0600).does("64*6; 11 0").fails("4 before 2 by 11", 4, 64);
        of(0x0803).does("64*6; 14 0").fails("3 before 2 by 14", 3, 64);
        of(0x0803).does("64*6; 15 0").fails("3 before 2 by 15", 3, 64);
        for (int op = 11; op <= 15; op++) {
            if (op != 13) {
                of(3).does("15 0; 63*6; " + op + " 0").fails("6 before 2 by " + op, 6, 64);
            }
        }
        Edge.of(4).gives(3).does("6; 1").function(0).does("64*6; 23 0").fails("15 before 2 by 23", 15, 64);
        Edge.of(4).gives(3).does("6; 1").function(4).does("10; 50 8; 63*6; 23 0").fails("6 before 2 by 23", 6, 65);
        Edge.of(0, 0x0903).gives(3, 3).does("6; 45").function(0).takes(0x0903)
            .does("11 0; 20; 62*6; 11 0; 23 0").fails("6, not sole, before 2 by 23", 6, 65);
    }

    /** "2 above 64 values": 64 are taken up, one more is not, by each operation that puts more than it takes. */
    private static void high() {
        String[] puts = {"5", "6", "7", "8", "9", "10", "46", "11 0", "12 0", "14 0", "15 0", "21 0", "52 0 0", "23 0"};
        for (String op : puts) {
            Edge.of(0).gives(3).does("6; 1").function(0).takes(3).does("62*6; 8; " + op + Edge.ABORT)
                .fails("64 by " + op + ", then 65", 2, 64);
            Edge.of(0).gives(3).does("6; 1").function(0).takes(3).does("63*6; " + op + "; 35; 34")
                .fails("64 by " + op, op.equals("8") || op.equals("9") ? 11 : 3, 65);
            Edge.of(0).gives(3).does("6; 1").function(0).takes(3).does("64*6; " + op + Edge.ABORT)
                .fails("65 by " + op, 2, 64);
        }
        of(0x0607).does("62*6; 12 0; 22 7; 34; 45").fails("64 by 22, a truth topmost", 3, 65);
        of(0x0607).does("62*6; 12 0; 22 7; 34; 35; 0; 45").isTaken("64 by 22");
        of(0x0607).does("63*6; 12 0; 22 7; 34; 35; 0; 45").fails("65 by 22", 2, 64);
        of().gives(3, 3, 3, 3, 3, 3, 3, 3).does("8*6; 1").function(4).does("56*6; 23 0; 45")
            .isTaken("64 by a call of eight");
        of().gives(3, 3, 3, 3, 3, 3, 3, 3).does("8*6; 1").function(4).does("57*6; 23 0; 45")
            .fails("65 by a call", 2, 57);
        of(3).gives(3, 3).does("6; 6; 1").function(4).does("63*6; 23 0; 45").isTaken("64 by a call that takes one");
        of(3).gives(3, 3).does("6; 6; 1").function(4).does("64*6; 23 0; 45")
            .fails("65 by a call that takes one", 2, 64);
    }

    /** At 64 values what puts no more than it takes is free, and so is what puts nothing. */
    private static void highByNone() {
        String[] frees = {"6; 35; 0", "6; 42; 0", "8; 34; 0", "6; 24", "6; 36; 0", "5; 32", "11 0; 18; 0",
            "11 0; 20; 0", "11 1; 16 7 0; 0", "11 1; 17 7 0; 0", "12 2; 22 15; 0", "10; 21 15; 0", "10; 49 16; 0",
            "10; 50 16; 0", "10; 48 16; 47 16", "6; 52 0 1; 0", "11 3; 53 0; 0", "11 3; 57 0; 0", "6; 13 4",
            "8; 23 0; 0"};
        for (String free : frees) {
            Told told = Edge.of(4, 1).gives(1).does("12 0; 1").function(4);
            told.takes(0x0903, 0x090607, 0x060f, 0x090703, 3).does("63*6; " + free + "; 45");
            told.isTaken("free at 64: " + free);
        }
    }

    private static void highBeforeNext() {
        of().does("64*6; 6").fails("2 before 11", 2, 64);
        of(1, 0x0600).does("11 0; 3 68; 12 1; 63*6; 6; 35; 6; 45").fails("2 before 9", 2, 66);
        of(1).does("11 0; 3 67; 64*6; 6; 6; 45").fails("2 before 8 of the next", 2, 66);
    }

    /** "Behind an operation other than 1, 2, 45 one comes to the next instruction: 11 when there is none." */
    private static void noNext() {
        String[] all = {"6; 0", "5", "6", "7", "8", "9", "10", "46", "35", "11 0", "12 0", "6; 13 0", "14 0",
            "15 0", "11 1; 16 7 0", "11 1; 17 7 0", "11 2; 18", "6; 11 2; 19", "11 2; 20", "21 0", "21 0; 22 0",
            "23 0", "6; 6; 24", "6; 6; 25", "6; 6; 26", "6; 6; 27", "6; 6; 28", "8; 8; 29", "8; 8; 30", "8; 8; 31",
            "6; 5; 32", "6; 5; 33", "8; 34", "8; 8; 36", "8; 8; 37", "6; 6; 38", "6; 6; 39", "6; 6; 40", "6; 6; 41",
            "6; 42", "6; 43", "6; 44", "21 16; 47 16", "10; 48 16", "10; 49 16", "10; 50 16", "10; 51 16", "52 0 0",
            "11 3; 53 0", "11 3; 6; 54 0", "11 3; 6; 55 0", "11 3; 6; 56 0", "11 3; 57 0", "11 3; 6; 6; 58 0",
            "52 1 0; 59", "8; 3 0", "8; 4 0"};
        for (String code : all) {
            Edge.of(4).function(4).takes(3, 0x090607, 0x0903, 0x090703).does(code)
                .fails("none behind " + code, 11, Edge.length(code) - 1);
            Edge.of(4).function(4).takes(3, 0x090607, 0x0903, 0x090703).does(code + Edge.ABORT)
                .isTaken("some behind " + code);
        }
        of().does("1").isTaken("none is wanted behind 1");
        of().does("2 0").isTaken("none is wanted behind 2");
        of().does("6; 45").isTaken("none is wanted behind 45");
        of().does("255*35; 1").isTaken("none is wanted behind the last");
        of().does("256*35").fails("none behind the last", 11, 255);
        of().does("8; 3 2; 1").isTaken("one behind 3");
        of(1).does("35; 11 0; 3 0").fails("3 goes on, too", 11, 2);
        of(1).does("35; 11 0; 4 0").fails("4 goes on, too", 11, 2);
    }

    /** What one look has left is not there for another: no stack, no local, no place where a branch led. */
    private static void looksShareNothing() {
        Told told = Edge.of(0).does("6; 6; 6; 0; 0; 24").function(0).does("0; 1");
        Due.due("a fault with values left", told.x.check(0), -1);
        told.fails("none is left for the next", 1, 0);
        told = Edge.of(0).does("6; 6; 34").function(0).does("2 0");
        Due.due("a fault with values left", told.x.check(0), -3);
        told.isTaken("0 is led to, with an empty stack");
        Due.due("height", told.x.height(0), 0);
        told = Edge.of(0).does("6; 6; 34").function(0).does("35; 2 0");
        Due.due("a fault with values left", told.x.check(0), -3);
        told.isTaken("0 is led to, with an empty stack");
        told = Edge.of(0).does("35; 35; 35; 2 1").function(0).does("6; 35; 45");
        Due.due("branches", told.x.check(0), 0);
        told.isTaken("1 is not led to in this one");
        told = Edge.of(0).does("2 2; 35; 1").function(0).does("1; 35; 1");
        Due.due("2 is come to", told.x.check(0), -10);
        told.fails("1 is not, in this one", 10, 1);
        told = Edge.of(0).does("35; 35; 35; 1").function(0).does("1; 1; 1; 1");
        Due.due("all are come to", told.x.check(0), 0);
        told.fails("not in this one", 10, 1);
        told = Edge.of(0, 0x0600).does("1").function(0).locals(0x0600).does("1");
        Due.due("local 0 is there", told.x.check(0), -13);
        told.isTaken("local 0 is gone in this one");
        told = Edge.of(0, 3).does("1").function(0).takes(0x0600).does("1");
        Due.due("local 0 has drop", told.x.check(0), 0);
        told.fails("local 0 has none in this one", 13, 0);
        told = Edge.of(0, 0x0600, 0x0600).does("12 0; 12 1; 6; 45").function(0).takes(3, 3).does("1");
        Due.due("locals have none", told.x.check(0), 0);
        told.isTaken("locals have drop in this one");
        told = Edge.of(0, 3, 0x0903).does("1").function(0).takes(3).locals(0x0803).does("14 0; 13 1; 11 0; 0; 1");
        Due.due("local 1 writes", told.x.check(0), 0);
        told.isTaken("local 1 does not write in this one");
        told = Edge.of(0, 3, 3).locals(0x0903).does("15 0; 13 2; 35; 6; 45").function(0).takes(3).locals(3, 0x0903)
            .does("12 0; 13 1; 15 1; 13 2; 1");
        Due.due("local 2 points to 0", told.x.check(0), 0);
        told.isTaken("local 2 is gone in this one");
    }

    /** A look leaves all as it is: the next one answers the same. */
    private static void lookingAgain() {
        Told taken = of(1, 3).locals(0x0803).does("11 0; 3 4; 14 1; 13 2; 35; 1");
        Told not = of(1, 3).locals(0x0803).does("14 1; 13 2; 11 0; 3 5; 12 2; 12 1");
        for (int k = 0; k < 5; k++) {
            taken.isTaken("taken again");
            Due.due("gone in one", taken.x.there(4, 2), 0);
            not.fails("a fault again", 8, 5);
        }
    }
}
