/** Promises 1 to 9: a new object, and what it is told. */
public final class TellingTest {
    private static final int BAD = -1;
    private static final int NO = -2;
    private static final int FULL = -3;

    public static void main(String[] args) {
        newObject();
        structures();
        fields();
        typesThatAre();
        typesThatAreNot();
        abilities();
        bears();
        elements();
        functions();
        lists();
        instructions();
        Due.end();
    }

    private static void due(String what, long got, long want) {
        Due.due(what, got, want);
    }

    private static void newObject() {
        AbilityChecker x = new AbilityChecker();
        due("the constant BAD", AbilityChecker.BAD, BAD);
        due("the constant NO", AbilityChecker.NO, NO);
        due("the constant FULL", AbilityChecker.FULL, FULL);
        due("new: bears(0)", x.bears(0), BAD);
        due("new: abilities(0x0600)", x.abilities(0x0600), BAD);
        due("new: field(3)", x.field(3), NO);
        due("new: list(0, 3)", x.list(0, 3), NO);
        due("new: instruction(1, 0, 0)", x.instruction(1, 0, 0), NO);
        due("new: place()", x.place(), NO);
        due("new: height(0)", x.height(0), BAD);
        due("new: there(0, 0)", x.there(0, 0), BAD);
        due("new: origins(0, 0)", x.origins(0, 0), 0);
        due("new: check(0)", x.check(0), BAD - 100);
        due("new: element(3)", x.element(3), 0);
        due("new: function(0)", x.function(0), 0);
        due("new: structure(0)", x.structure(0), 0);
        due("another one: structure(0)", new AbilityChecker().structure(0), 0);
    }

    private static void structures() {
        AbilityChecker x = new AbilityChecker();
        due("structure(-1)", x.structure(-1), BAD);
        due("structure(16)", x.structure(16), BAD);
        due("structure(MIN)", x.structure(Integer.MIN_VALUE), BAD);
        for (int k = 0; k < 32; k++) {
            due("structure no. " + k, x.structure(k % 16), k);
        }
        due("structure(0) when there are 32", x.structure(0), FULL);
        due("structure(16) when there are 32", x.structure(16), BAD);
        for (int k = 0; k < 32; k++) {
            due("abilities of structure " + k, x.abilities(0x0600 + k), k % 16);
        }
        due("abilities of structure 32", x.abilities(0x0620), BAD);
    }

    private static void fields() {
        AbilityChecker x = new AbilityChecker();
        due("field(0x0600) without it", x.field(0x0600), BAD);
        due("field(6) without a structure", x.field(6), BAD);
        due("field(0x0803) without a structure", x.field(0x0803), BAD);
        due("field(3) without a structure", x.field(3), NO);
        x.structure(7);
        due("field of that structure itself", x.field(0x0600), 1);
        due("field(0x0803)", x.field(0x0803), BAD);
        due("field(0x0903)", x.field(0x0903), BAD);
        due("field(0x0601)", x.field(0x0601), BAD);
        for (int k = 2; k <= 16; k++) {
            due("field no. " + k, x.field(0x0703), k);
        }
        due("field(3) beyond 16", x.field(3), FULL);
        due("field(0) beyond 16", x.field(0), BAD);
        x.structure(7);
        due("field of the latest", x.field(0x0600), 1);
    }

    private static void typesThatAre() {
        AbilityChecker x = new AbilityChecker();
        x.structure(15);
        long[] plain = {1, 2, 3, 4, 5, 0x0701, 0x0702, 0x070703, 0x07070704L, 0x0707070705L};
        for (long type : plain) {
            due("abilities of " + type, x.abilities(type), 7);
            int size = Long.toHexString(type).length() <= 1 ? 8 : 8 * ((Long.toHexString(type).length() + 1) / 2);
            due("abilities of 8 and " + type, x.abilities(8L << size | type), 3);
            due("abilities of 9 and " + type, x.abilities(9L << size | type), 3);
        }
        due("four 7s and a structure", x.abilities(0x070707070600L), 7);
        due("a reference to that", x.abilities(0x09070707070600L), 3);
        due("a reference to a structure", x.abilities(0x080600), 3);
    }

    private static void typesThatAreNot() {
        AbilityChecker x = new AbilityChecker();
        for (int k = 0; k < 8; k++) {
            x.structure(k);
        }
        long[] none = {0, 6, 7, 8, 9, 10, 255, 0x0100, 0x0103, 0x0306, 0x0608, 0x0707, 0x0708, 0x0806, 0x0807, 0x0808,
            0x0809, 0x0909, 0x0a03, 0x070803, 0x070903, 0x080803, 0x080903, 0x090803, 0x070003, 0x080003, 0x080000,
            0x060003, 0x060103, 0x061000, 0x0706, 0x0800000003L, 0x0707070707L, 0x070707070703L, 0x07070707070600L,
            0x0807070707070600L, 0x0907070707070700L, 0x0808070707070600L, 0x0300000000000003L, -1, Long.MIN_VALUE,
            Long.MIN_VALUE | 3, 0xF8F8F8F8F8F8F803L, Long.MAX_VALUE, 0x0100000003L, 0x0706ff, 0x06ff};
        for (long type : none) {
            due("abilities of " + Long.toHexString(type), x.abilities(type), BAD);
            due("field of " + Long.toHexString(type), x.field(type), BAD);
            due("element of " + Long.toHexString(type), x.element(type), BAD);
            due("list of " + Long.toHexString(type), x.list(0, type), BAD);
        }
        due("a structure whose number is 7", x.abilities(0x0607), 7);
        due("a vector of it", x.abilities(0x070607), 7);
        due("a structure whose number is 6", x.abilities(0x0606), 6);
    }

    private static void abilities() {
        AbilityChecker x = new AbilityChecker();
        for (int k = 0; k < 16; k++) {
            x.structure(k);
            due("a structure's own " + k, x.abilities(0x0600 + k), k);
            due("a vector's of " + k, x.abilities(0x070600 + k), k & 7);
            due("a vector's of vectors of " + k, x.abilities(0x07070600 + k), k & 7);
            due("a reference's to " + k, x.abilities(0x080600 + k), 3);
            due("a writing reference's to a vector of " + k, x.abilities(0x09070600 + k), 3);
        }
    }

    private static AbilityChecker sixteen() {
        AbilityChecker x = new AbilityChecker();
        for (int inner = 0; inner < 16; inner++) {
            x.structure(inner);
            due("without fields bears", x.bears(inner), 1);
        }
        return x;
    }

    private static void bears() {
        AbilityChecker x = null;
        for (int own = 0; own < 16; own++) {
            x = own % 8 == 0 ? sixteen() : x;
            x.structure(own);
            for (int inner = 0; inner < 16; inner++) {
                int needed = own & 7 | (own >= 8 ? 4 : 0);
                x.field(0x0600 + inner);
                boolean bears = true;
                for (int k = 0; k <= inner; k++) {
                    bears &= (k & needed) == needed;
                }
                due("bears " + own + " with fields to " + inner, x.bears(16 + own % 8), bears ? 1 : 0);
            }
        }
        x = sixteen();
        due("bears(-1)", x.bears(-1), BAD);
        due("bears(16)", x.bears(16), BAD);
        due("bears(MAX)", x.bears(Integer.MAX_VALUE), BAD);
        Told all = new Told().structure(15, 1, 2, 0x0705).structure(15, 0x0600, 0x070600).structure(8, 0x0602)
            .structure(12, 0x0603);
        due("bears by vectors", all.x.bears(0), 1);
        due("bears by a structure and its vector", all.x.bears(1), 1);
        due("a field of itself, with key but no store", all.x.bears(2), 0);
        due("a field of itself, with key and store", all.x.bears(3), 1);
    }

    private static void elements() {
        AbilityChecker x = new AbilityChecker();
        due("element(0x0600) without it", x.element(0x0600), BAD);
        for (int k = 0; k < 32; k++) {
            due("element no. " + k, x.element(k % 2 == 0 ? 3 : 0x0707070703L), k);
        }
        due("element(3) when there are 32", x.element(3), FULL);
        due("element(0x0803) when there are 32", x.element(0x0803), BAD);
        due("element(0) when there are 32", x.element(0), BAD);
    }

    private static void functions() {
        AbilityChecker x = new AbilityChecker();
        due("function(-1)", x.function(-1), BAD);
        due("function(8)", x.function(8), BAD);
        for (int k = 0; k < 64; k++) {
            due("function no. " + k, x.function(k % 8), k);
        }
        due("function(0) when there are 64", x.function(0), FULL);
        due("function(8) when there are 64", x.function(8), BAD);
        due("a function without instructions", x.check(63), BAD - 100);
        due("no such function", x.check(64), BAD - 100);
    }

    private static void lists() {
        AbilityChecker x = new AbilityChecker();
        due("list(3, 3) without a function", x.list(3, 3), BAD);
        due("list(-1, 3) without a function", x.list(-1, 3), BAD);
        due("list(0, 0) without a function", x.list(0, 0), BAD);
        due("list(0, 3) without a function", x.list(0, 3), NO);
        x.function(0);
        int[] most = {8, 8, 32};
        for (int what = 0; what < 3; what++) {
            due("list(" + what + ", 0x0600) without it", x.list(what, 0x0600), BAD);
            for (int k = 1; k <= most[what]; k++) {
                due("list(" + what + ") no. " + k, x.list(what, k % 2 == 0 ? 0x0903 : 3), k);
            }
            due("list(" + what + ") beyond", x.list(what, 3), FULL);
            due("list(" + what + ", 0) beyond", x.list(what, 0), BAD);
        }
        due("list(3, 3)", x.list(3, 3), BAD);
        x.function(0);
        due("list of the latest", x.list(0, 3), 1);
        new Told().function(0).locals(1).takes(3).does("12 0; 0; 5; 13 1; 1").fails("what it takes comes first", 3, 3);
        new Told().function(0).locals(1).takes(3).does("12 0; 0; 8; 13 1; 1").isTaken("its locals come behind");
    }

    private static void instructions() {
        AbilityChecker x = new AbilityChecker();
        due("instruction(-1) without a function", x.instruction(-1, 0, 0), BAD);
        due("instruction(60) without a function", x.instruction(60, 0, 0), BAD);
        due("instruction(0) without a function", x.instruction(0, 0, 0), NO);
        x.function(0);
        for (int k = 1; k <= 256; k++) {
            due("instruction no. " + k, x.instruction(k == 256 ? 1 : 35, Integer.MIN_VALUE, Integer.MAX_VALUE), k);
        }
        due("instruction(59) beyond 256", x.instruction(59, 0, 0), FULL);
        due("instruction(60) beyond 256", x.instruction(60, 0, 0), BAD);
        due("256 instructions", x.check(0), 0);
        due("the height at the last one", x.height(255), 0);
        due("the height beyond", x.height(256), BAD);
        x.function(0);
        due("instruction of the latest", x.instruction(59, 0, 0), 1);
        due("instruction(60)", x.instruction(60, 0, 0), BAD);
    }
}
