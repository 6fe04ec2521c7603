/** Edges of the head 'Terms' (TYPE, ABILITIES, BEARS) and of promises 4 and 5: a method for each sentence. */
public final class EdgeTypeTest {
    private static final int[] WIDTHS = {1, 2, 3, 4};
    private static final int[] BYTES = {0, 1, 2, 5, 6, 7, 8, 9, 10, 255};

    public static void main(String[] args) {
        plainTypes();
        structureNumbers();
        structuresThatComeLater();
        vectors();
        atMostFourSevens();
        references();
        referencesWithoutSuch();
        theLastByteIsLowest();
        noByteAbove();
        allShortOnes();
        plainAbilities();
        aStructuresOwn();
        aVectorsButKey();
        aReferences();
        abilitiesOfNone();
        bearsWithoutFields();
        bearsEachForEach();
        bearsByVectors();
        bearsByAllFields();
        bearsStoreForKey();
        bearsAnew();
        bearsNone();
        Due.end();
    }

    private static AbilityChecker with(int structures) {
        AbilityChecker x = new AbilityChecker();
        for (int k = 0; k < structures; k++) {
            x.structure(k % 16);
        }
        x.function(0);
        return x;
    }

    private static void isType(int structures, long type, int abilities) {
        AbilityChecker x = with(structures);
        String what = Long.toHexString(type) + " with " + structures + " structures: ";
        boolean refers = type >> 8 != 0 && Model.text(type).matches("0[89].*");
        Due.due(what + "abilities", x.abilities(type), abilities);
        Due.due(what + "field", x.field(type), refers ? Edge.BAD : structures == 0 ? Edge.NO : 1);
        Due.due(what + "element", x.element(type), refers ? Edge.BAD : 0);
        for (int w = 0; w < 3; w++) {
            Due.due(what + "list " + w, x.list(w, type), 1);
        }
    }

    private static void isNone(int structures, long type) {
        AbilityChecker x = with(structures);
        String what = Long.toHexString(type) + " with " + structures + " structures: ";
        Due.due(what + "abilities", x.abilities(type), Edge.BAD);
        Due.due(what + "field", x.field(type), Edge.BAD);
        Due.due(what + "a field then", x.field(1), structures == 0 ? Edge.NO : 1);
        Due.due(what + "element", x.element(type), Edge.BAD);
        Due.due(what + "an element type then", x.element(1), 0);
        for (int w = 0; w < 3; w++) {
            Due.due(what + "list " + w, x.list(w, type), Edge.BAD);
            Due.due(what + "list then " + w, x.list(w, 1), 1);
        }
    }

    /** "1 truth, 2 byte, 3 long, 4 wide, 5 address". */
    private static void plainTypes() {
        for (long type = 1; type <= 5; type++) {
            isType(0, type, 7);
            isType(1, type, 7);
        }
        for (long none = 6; none <= 256; none++) {
            isNone(1, none);
        }
        long[] none = {0, -1, -5, Long.MIN_VALUE, Long.MAX_VALUE, Integer.MIN_VALUE, Integer.MAX_VALUE};
        for (long type : none) {
            isNone(1, type);
        }
    }

    /** "6 and a byte, a structure's number": of structures that there are. */
    private static void structureNumbers() {
        int[] counts = {1, 2, 9, 10, 31, 32};
        for (int count : counts) {
            isType(count, 0x0600, 0);
            isType(count, 0x0600 + count - 1, (count - 1) % 16);
            isNone(count, 0x0600 + count);
            isNone(count, 0x06ff);
            isNone(count, 0x0680);
        }
        isNone(0, 0x0600);
        isNone(32, 6);
        isNone(32, 0x06060000L);
        isNone(32, 0x060000);
        isNone(32, 0x060001);
        isNone(32, 0x060100);
        isNone(32, 0x060601);
        isNone(32, 0x0500);
        isNone(32, 0x0501);
        for (int number = 0; number < 32; number++) {
            isType(32, 0x0600 + number, number % 16);
        }
    }

    /** A TYPE is one of structures that there are when it is told, not later. */
    private static void structuresThatComeLater() {
        AbilityChecker x = with(1);
        Due.due("not yet", x.abilities(0x0601), Edge.BAD);
        Due.due("not yet a vector", x.field(0x070601), Edge.BAD);
        Due.due("not yet a reference", x.list(0, 0x080601), Edge.BAD);
        Due.due("then it comes", x.structure(5), 1);
        Due.due("then it is", x.abilities(0x0601), 5);
        Due.due("then its vector is", x.field(0x070601), 1);
        Due.due("then its reference is", x.list(0, 0x080601), 1);
    }

    /** "7 and a TYPE that is no reference (a vector of it". */
    private static void vectors() {
        for (int type = 1; type <= 5; type++) {
            isType(0, 0x0700 + type, 7);
        }
        isType(32, 0x07061f, 7);
        long[] none = {7, 0x0700, 0x0706, 0x0707, 0x070707, 0x07070707L, 0x0708, 0x0709, 0x070a, 0x070a03, 0x070100,
            0x070103, 0x070620, 0x0706ff, 0x07060000L, 0x0307, 0x060007, 0x070007, 0x07000703L};
        for (long type : none) {
            isNone(32, type);
        }
        for (int lead = 8; lead <= 9; lead++) {
            isNone(32, Edge.vector(Edge.led(lead, 3)));
            isNone(32, Edge.vector(Edge.led(lead, 0x0600)));
            isNone(32, Edge.sevens(2, Edge.led(lead, 0x0703)));
            isNone(32, Edge.led(lead, Edge.vector(Edge.led(lead, 3))));
        }
    }

    /** "at most four 7s". */
    private static void atMostFourSevens() {
        long[] bases = {1, 2, 3, 4, 5, 0x0600, 0x0606, 0x0607, 0x061f};
        for (long base : bases) {
            int abilities = base < 6 ? 7 : (int) base % 16 & 7;
            for (int count = 1; count <= 4; count++) {
                isType(32, Edge.sevens(count, base), abilities);
                isType(32, Edge.reading(Edge.sevens(count, base)), 3);
                isType(32, Edge.writing(Edge.sevens(count, base)), 3);
            }
            isNone(32, Edge.sevens(5, base));
            isNone(32, Edge.sevens(6, base));
            isNone(32, Edge.reading(Edge.sevens(5, base)));
            isNone(32, Edge.writing(Edge.sevens(5, base)));
        }
        isNone(32, 0x0707070707070703L);
        isNone(32, 0x0707070707070707L);
    }

    /** "8 or 9 and a TYPE". */
    private static void references() {
        long[] targets = {1, 2, 3, 4, 5, 0x0600, 0x0608, 0x0609, 0x061f, 0x0703, 0x070600};
        for (long target : targets) {
            isType(32, Edge.reading(target), 3);
            isType(32, Edge.writing(target), 3);
            isNone(32, Edge.led(10, target));
            isNone(32, Edge.led(1, target));
            isNone(32, Edge.led(5, target));
        }
        long[] none = {8, 9, 0x0800, 0x0900, 0x0806, 0x0907, 0x080a, 0x090a, 0x0820, 0x080620, 0x0906ff, 0x0308,
            0x0309};
        for (long type : none) {
            isNone(32, type);
        }
    }

    /** "and a TYPE without such": no reference to a reference, be it inside a vector. */
    private static void referencesWithoutSuch() {
        for (int first = 8; first <= 9; first++) {
            for (int second = 8; second <= 9; second++) {
                isNone(32, first << 8 | second);
                isNone(32, Edge.led(first, Edge.led(second, 3)));
                isNone(32, Edge.led(first, Edge.led(second, 0x0600)));
                isNone(32, Edge.led(first, Edge.led(second, 0x0703)));
                isNone(32, Edge.led(first, Edge.led(second, 0x0707070703L)));
            }
        }
    }

    /** "told as a long, by its bytes, the last one lowest". */
    private static void theLastByteIsLowest() {
        isNone(32, 0x0006);
        isNone(32, 0x0106);
        isNone(32, 0x0307);
        isNone(32, 0x0308);
        isNone(32, 0x0300000000000000L);
        isNone(32, 0x0703000000000000L);
        isNone(32, 0x0300);
    }

    /** Bytes above a TYPE's first make another one of it, or none. */
    private static void noByteAbove() {
        long[] types = {3, 0x0600, 0x0703, 0x0803, 0x0707070703L, 0x09070707070600L};
        for (long type : types) {
            int own = Model.text(type).length() / 2;
            for (int place = own; place < 8; place++) {
                for (int above = 1; above < 256; above++) {
                    long made = (long) above << 8 * place | type;
                    boolean adjoins = place == own && above >= 6 && above <= 9;
                    if (!adjoins) {
                        isNoneAt(made);
                    }
                }
            }
        }
        isNoneAt(0x0109070707070600L);
        isNoneAt(0x8009070707070600L);
        isNoneAt(0x0809070707070600L);
        isNoneAt(0x0707070707070600L);
        isNoneAt(0x8000000000000003L);
        isNoneAt(0xff00000000000003L);
    }

    private static void isNoneAt(long type) {
        AbilityChecker x = new AbilityChecker();
        x.structure(0);
        Due.due("abilities of " + Long.toHexString(type), x.abilities(type), Edge.BAD);
        Due.due("element of " + Long.toHexString(type), x.element(type), Edge.BAD);
    }

    /** Every row of up to four bytes, as it is and behind two that may lead it, beside the Model's words for a TYPE. */
    private static void allShortOnes() {
        Model model = new Model();
        for (int k = 0; k < 8; k++) {
            model.structures.add(k);
        }
        long[] leads = {0, 0x0907, 0x07070707L, 0x08070707L};
        for (int width : WIDTHS) {
            AbilityChecker x = null;
            int rows = (int) Math.pow(BYTES.length, width);
            for (int row = 0; row < rows; row++) {
                if (row % 100 == 0) {
                    x = with(8);
                }
                for (long lead : leads) {
                    compare(model, x, lead << 8 * width | rowOf(row, width));
                }
            }
        }
    }

    private static long rowOf(int row, int width) {
        long type = 0;
        int rest = row;
        for (int k = 0; k < width; k++) {
            type |= (long) BYTES[rest % BYTES.length] << 8 * k;
            rest /= BYTES.length;
        }
        return type;
    }

    private static void compare(Model model, AbilityChecker x, long type) {
        String text = Model.text(type);
        int due = model.isType(text) ? model.abilities(text) : Edge.BAD;
        Due.due("abilities of " + text, x.abilities(type), due);
    }

    /** "ABILITIES are ..: 7 for 1 .. 5". */
    private static void plainAbilities() {
        for (long type = 1; type <= 5; type++) {
            Due.due("without structures " + type, new AbilityChecker().abilities(type), 7);
        }
    }

    /** "a structure's own": all sixteen, whatever its fields have. */
    private static void aStructuresOwn() {
        for (int own = 0; own < 16; own++) {
            AbilityChecker x = new AbilityChecker();
            x.structure(15 - own);
            x.structure(own);
            x.field(0x0600);
            x.field(3);
            Due.due("its own " + own, x.abilities(0x0601), own);
            Due.due("another's own " + own, x.abilities(0x0600), 15 - own);
        }
    }

    /** "a vector's those of its TYPE but 8". */
    private static void aVectorsButKey() {
        AbilityChecker x = with(16);
        for (int own = 0; own < 16; own++) {
            for (int count = 1; count <= 4; count++) {
                Due.due(count + " sevens of " + own, x.abilities(Edge.sevens(count, 0x0600 + own)), own & 7);
            }
        }
    }

    /** "a reference's 3": either kind's, to whatever it is. */
    private static void aReferences() {
        AbilityChecker x = with(16);
        for (int own = 0; own < 16; own++) {
            long[] targets = {0x0600 + own, Edge.sevens(1, 0x0600 + own), Edge.sevens(4, 0x0600 + own)};
            for (long target : targets) {
                Due.due("a reading one's", x.abilities(Edge.reading(target)), 3);
                Due.due("a writing one's", x.abilities(Edge.writing(target)), 3);
            }
        }
    }

    /** "The ABILITIES of a TYPE; BAD when it is none of structures that there are." It leaves all as it is. */
    private static void abilitiesOfNone() {
        AbilityChecker x = new AbilityChecker();
        Due.due("none yet", x.abilities(0x0600), Edge.BAD);
        Due.due("none yet, a vector", x.abilities(0x070600), Edge.BAD);
        Due.due("none yet, a reference", x.abilities(0x090600), Edge.BAD);
        Due.due("asking made none", x.bears(0), Edge.BAD);
        Due.due("the first is 0", x.structure(9), 0);
        Due.due("it is there now", x.abilities(0x0600), 9);
        Due.due("its vector is there now", x.abilities(0x070600), 1);
        Due.due("its reference is there now", x.abilities(0x090600), 3);
        Due.due("the next is not", x.abilities(0x0601), Edge.BAD);
    }

    /** "when all its fields have": it has none, all have. */
    private static void bearsWithoutFields() {
        AbilityChecker x = with(16);
        for (int own = 0; own < 16; own++) {
            Due.due("no field, abilities " + own, x.bears(own), 1);
        }
    }

    private static boolean bears(int own, int field) {
        boolean copies = (own & 1) == 0 || (field & 1) != 0;
        boolean drops = (own & 2) == 0 || (field & 2) != 0;
        boolean stores = (own & 4) == 0 && (own & 8) == 0 || (field & 4) != 0;
        return copies && drops && stores;
    }

    /** "copy, drop, store for each of these that it has, and store if it has key". */
    private static void bearsEachForEach() {
        for (int own = 0; own < 16; own++) {
            for (int field = 0; field < 16; field++) {
                AbilityChecker x = new AbilityChecker();
                x.structure(field);
                x.structure(own);
                x.field(0x0600);
                Due.due(own + " bears " + field, x.bears(1), bears(own, field) ? 1 : 0);
                Due.due("the field's own, without fields", x.bears(0), 1);
            }
            for (long plain = 1; plain <= 5; plain++) {
                AbilityChecker x = new AbilityChecker();
                x.structure(own);
                x.field(plain);
                Due.due(own + " bears a plain one", x.bears(0), 1);
            }
        }
    }

    private static void bearsByVectors() {
        for (int own = 0; own < 16; own++) {
            for (int field = 0; field < 16; field++) {
                AbilityChecker x = new AbilityChecker();
                x.structure(field);
                x.structure(own);
                x.field(Edge.sevens(1 + field % 4, 0x0600));
                Due.due(own + " bears a vector of " + field, x.bears(1), bears(own, field & 7) ? 1 : 0);
            }
        }
    }

    /** "all its fields": one that has not is enough, wherever among the sixteen it stands. */
    private static void bearsByAllFields() {
        for (int lacking = -1; lacking < 16; lacking++) {
            AbilityChecker x = new AbilityChecker();
            x.structure(5);
            x.structure(7);
            for (int k = 0; k < 16; k++) {
                Due.due("field", x.field(k == lacking ? 0x0600 : 3), k + 1);
            }
            Due.due("field " + lacking + " lacks drop", x.bears(1), lacking < 0 ? 1 : 0);
        }
        AbilityChecker x = new AbilityChecker();
        x.structure(3);
        x.structure(6);
        x.structure(5);
        x.structure(7);
        x.field(0x0600);
        x.field(0x0601);
        x.field(0x0602);
        Due.due("each field lacks another", x.bears(3), 0);
        x.structure(2);
        x.field(0x0600);
        x.field(0x0601);
        Due.due("what fields lack is not asked", x.bears(4), 1);
    }

    /** "and store if it has key": not key. */
    private static void bearsStoreForKey() {
        AbilityChecker x = new AbilityChecker();
        x.structure(8);
        x.structure(4);
        x.structure(8);
        x.field(0x0600);
        Due.due("a key's field that has key, no store", x.bears(2), 0);
        x.structure(8);
        x.field(0x0601);
        Due.due("a key's field that has store, no key", x.bears(3), 1);
        x.structure(8);
        x.field(0x0604);
        Due.due("a key's field of itself, without store", x.bears(4), 0);
        x.structure(12);
        x.field(0x0605);
        Due.due("a key's field of itself, with store", x.bears(5), 1);
        x.structure(12);
        x.field(0x070606);
        Due.due("a vector of itself", x.bears(6), 1);
    }

    private static void bearsAnew() {
        AbilityChecker x = new AbilityChecker();
        x.structure(0);
        x.structure(2);
        Due.due("without fields", x.bears(1), 1);
        x.field(3);
        Due.due("with one that has drop", x.bears(1), 1);
        x.field(0x0600);
        Due.due("with one more that has not", x.bears(1), 0);
        x.field(3);
        Due.due("it is not mended", x.bears(1), 0);
        x.structure(2);
        Due.due("the next one does", x.bears(2), 1);
        Due.due("and leaves that as it is", x.bears(1), 0);
    }

    /** "BAD when there is none such." */
    private static void bearsNone() {
        AbilityChecker x = new AbilityChecker();
        Due.due("none yet", x.bears(0), Edge.BAD);
        for (int count = 1; count <= 32; count++) {
            x.structure(15);
            Due.due("the last", x.bears(count - 1), 1);
            Due.due("the first that is not", x.bears(count), Edge.BAD);
        }
        x.structure(15);
        int[] none = {-1, 32, 33, 0x0600, 64, 256, Integer.MIN_VALUE, Integer.MAX_VALUE};
        for (int k : none) {
            Due.due("bears(" + k + ")", x.bears(k), Edge.BAD);
        }
        Due.due("the first is still there", x.bears(0), 1);
    }
}
