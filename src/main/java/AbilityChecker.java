/**
 * Looks at the functions of a ledger's code before they are ever done. The document that it keeps is
 * ../shared/DOC.md; the words in capitals below (TYPE, LIVE, SOLE, COMING ..) are explained there.
 */
public final class AbilityChecker {
    public static final int BAD = -1;
    public static final int NO = -2;
    public static final int FULL = -3;

    private static final int NONE_TO_LOOK_AT = BAD - 100;

    // ABILITIES
    private static final int CAN_COPY = 1;
    private static final int CAN_DROP = 2;
    private static final int CAN_STORE = 4;
    private static final int CAN_KEY = 8;
    private static final int CAN_PLAIN = CAN_COPY | CAN_DROP | CAN_STORE;
    private static final int CAN_ALL = CAN_PLAIN | CAN_KEY;

    // why a function is not taken
    private static final int NOTHING_LEFT = 1;
    private static final int TOO_HIGH = 2;
    private static final int OTHER_TYPE = 3;
    private static final int NO_ABILITY = 4;
    private static final int GONE = 5;
    private static final int BORROWED = 6;
    private static final int NOT_WRITING = 7;
    private static final int NOT_EMPTY = 8;
    private static final int COMES_OTHERWISE = 9;
    private static final int NEVER_COME_TO = 10;
    private static final int NO_NEXT = 11;
    private static final int GIVES_OTHERS = 12;
    private static final int LEFT_BEHIND = 13;
    private static final int GIVES_OWN = 14;
    private static final int NO_RESOURCES = 15;
    private static final int NAMES_NOTHING = 16;

    // A value's marks: the ORIGINS of a reference, and INSIDE besides. No origin is above 62, so that one long
    // holds both, and joins and compares both at once. What is no reference, or gone, has the marks 0.
    private static final long INSIDE = 1L << 63;
    private static final long ORIGINS = ~INSIDE;
    private static final int FIRST_TAKEN = 40;
    private static final int FIRST_RESOURCE = 48;
    private static final int RESOURCE_ORIGINS = 15;
    private static final long OF_LOCALS = (1L << FIRST_TAKEN) - 1;
    private static final long OF_RESOURCES = ORIGINS & -(1L << FIRST_RESOURCE);

    // which of the LIVE references are asked for: all, those that write, those that bar another from being SOLE
    private static final int ALL = 0;
    private static final int THAT_WRITE = 1;
    private static final int THAT_BAR = 2;

    private final Ledger ledger;
    private final Looker looker;

    public AbilityChecker() {
        Ledger empty = new Ledger();
        ledger = empty;
        looker = new Looker(empty);
    }

    public int structure(int abilities) {
        if (abilities < 0 || abilities > CAN_ALL) {
            return BAD;
        }
        return ledger.addStructure(abilities);
    }

    public int field(long type) {
        if (!ledger.isType(type) || Type.isReference(type)) {
            return BAD;
        }
        Structure latest = ledger.latestStructure();
        return latest == null ? NO : latest.fields.add(type);
    }

    public int abilities(long type) {
        return ledger.isType(type) ? ledger.abilitiesOf(type) : BAD;
    }

    public int bears(int k) {
        Structure asked = ledger.structureAt(k);
        if (asked == null) {
            return BAD;
        }
        return ledger.bearsItsAbilities(asked) ? 1 : 0;
    }

    public int element(long type) {
        if (!ledger.isType(type) || Type.isReference(type)) {
            return BAD;
        }
        int count = ledger.elements.add(type);
        return count == FULL ? FULL : count - 1;
    }

    public int function(int flags) {
        if (flags < 0 || flags > Code.ALL_FLAGS) {
            return BAD;
        }
        return ledger.addCode(flags);
    }

    public int list(int what, long type) {
        if (what < Code.TAKES || what > Code.FURTHER || !ledger.isType(type)) {
            return BAD;
        }
        Code latest = ledger.latestCode();
        if (latest == null) {
            return NO;
        }
        return noted(latest, latest.addType(what, type));
    }

    public int instruction(int operation, int a, int b) {
        if (operation < 0 || operation > Op.LAST) {
            return BAD;
        }
        Code latest = ledger.latestCode();
        if (latest == null) {
            return NO;
        }
        return noted(latest, latest.addInstruction(operation, a, b));
    }

    public int check(int f) {
        Code code = ledger.codeAt(f);
        if (code == null || code.size == 0) {
            looker.lookAtNothing();
            return NONE_TO_LOOK_AT;
        }
        return -looker.look(code);
    }

    public int place() {
        return looker.faultPlace;
    }

    public int height(int i) {
        return looker.isTold(i) ? looker.states.heightAt(i) : BAD;
    }

    public int there(int i, int k) {
        if (!looker.isTold(i) || !looker.isLocal(k)) {
            return BAD;
        }
        return looker.states.isThere(i, k) ? 1 : 0;
    }

    public long origins(int i, int k) {
        if (!looker.isTold(i) || !looker.isLocal(k)) {
            return 0;
        }
        return looker.states.marksAt(i, k);
    }

    /** What was looked at is told no more once the function has really got something; a FULL one has not. */
    private int noted(Code grown, int count) {
        if (count != FULL) {
            looker.forget(grown);
        }
        return count;
    }

    /** The operations, by names of their own where a choice in the code hangs on them. */
    private static final class Op {
        static final int DROP = 0;
        static final int RETURN = 1;
        static final int BRANCH = 2;
        static final int BRANCH_WHEN = 3;
        static final int BRANCH_WHEN_NOT = 4;
        static final int BYTE = 5;
        static final int LONG = 6;
        static final int WIDE = 7;
        static final int TRUE = 8;
        static final int FALSE = 9;
        static final int ADDRESS = 10;
        static final int COPY = 11;
        static final int MOVE = 12;
        static final int SET = 13;
        static final int BORROW = 14;
        static final int BORROW_WRITING = 15;
        static final int FIELD = 16;
        static final int FIELD_WRITING = 17;
        static final int READ = 18;
        static final int WRITE = 19;
        static final int FREEZE = 20;
        static final int PACK = 21;
        static final int UNPACK = 22;
        static final int CALL = 23;
        static final int LAST_ARITHMETIC = 28;
        static final int LAST_BITWISE = 31;
        static final int LAST_SHIFT = 33;
        static final int NOT = 34;
        static final int NOTHING = 35;
        static final int UNEQUAL = 37;
        static final int LAST_ORDER = 41;
        static final int TO_BYTE = 42;
        static final int TO_LONG = 43;
        static final int TO_WIDE = 44;
        static final int ABORT = 45;
        static final int OTHER_ADDRESS = 46;
        static final int RESOURCE_PUT = 47;
        static final int RESOURCE_TAKE = 48;
        static final int RESOURCE_ASK = 49;
        static final int RESOURCE_BORROW = 50;
        static final int RESOURCE_BORROW_WRITING = 51;
        static final int VECTOR_PACK = 52;
        static final int VECTOR_LENGTH = 53;
        static final int VECTOR_BORROW = 54;
        static final int VECTOR_BORROW_WRITING = 55;
        static final int VECTOR_PUSH = 56;
        static final int VECTOR_POP = 57;
        static final int VECTOR_SWAP = 58;
        static final int HASH = 59;
        static final int LAST = 59;

        static boolean branches(int operation) {
            return operation >= BRANCH && operation <= BRANCH_WHEN_NOT;
        }
    }

    /** Reads and makes TYPEs. Of a long that may be no TYPE only isType() of the ledger may be asked. */
    private static final class Type {
        static final long TRUTH = 1;
        static final long BYTE = 2;
        static final long LONG = 3;
        static final long WIDE = 4;
        static final long ADDRESS = 5;
        static final int STRUCTURE = 6;
        static final int VECTOR = 7;
        static final int READING = 8;
        static final int WRITING = 9;
        static final int MOST_VECTORS = 4;
        static final int MOST_BYTES = 8;
        static final long VECTOR_OF_BYTE = (VECTOR << 8) | BYTE;

        static int byteAt(long type, int place) {
            return (int) (type >>> (8 * place)) & 255;
        }

        /** The first byte. */
        static int lead(long type) {
            long rest = type;
            for (int k = 1; k < MOST_BYTES && rest > 255; k++) {
                rest >>>= 8;
            }
            return (int) rest & 255;
        }

        /** All behind the first byte: what a reference points to, or what a vector is of. */
        static long inner(long type) {
            long mask = 255;
            for (int k = 1; k < MOST_BYTES && type > mask; k++) {
                mask = (mask << 8) | 255;
            }
            return type & (mask >>> 8);
        }

        static long of(int lead, long type) {
            long first = lead;
            for (int k = 0; k < MOST_BYTES && type >>> (8 * k) != 0; k++) {
                first <<= 8;
            }
            return first | type;
        }

        static long reference(boolean writing, long type) {
            return of(writing ? WRITING : READING, type);
        }

        static long numbered(int structure) {
            return ((long) STRUCTURE << 8) | structure;
        }

        static boolean isReference(long type) {
            int lead = lead(type);
            return lead == READING || lead == WRITING;
        }

        static boolean isWriting(long type) {
            return lead(type) == WRITING;
        }

        static boolean isNumber(long type) {
            return type >= BYTE && type <= WIDE;
        }
    }

    /** TYPEs in their order, up to a limit. */
    private static final class TypeList {
        private final long[] types;
        int count;

        TypeList(int limit) {
            types = new long[limit < 0 ? 0 : limit];
        }

        int add(long type) {
            if (count >= types.length) {
                return FULL;
            }
            types[count] = type;
            count++;
            return count;
        }

        boolean has(int k) {
            return k >= 0 && k < count;
        }

        long get(int k) {
            return has(k) ? types[k] : 0;
        }
    }

    private static final class Structure {
        static final int MOST_FIELDS = 16;

        final int abilities;
        final TypeList fields = new TypeList(MOST_FIELDS);

        Structure(int abilities) {
            this.abilities = abilities;
        }
    }

    /** A FUNCTION. */
    private static final class Code {
        static final int RESOURCES = 4;
        static final int ALL_FLAGS = 7;
        static final int TAKES = 0;
        static final int GIVES = 1;
        static final int FURTHER = 2;
        static final int MOST_TAKEN = 8;
        static final int MOST_FURTHER = 32;
        static final int MOST_LOCALS = MOST_TAKEN + MOST_FURTHER;
        static final int MOST_INSTRUCTIONS = 256;

        final int flags;
        final TypeList takes = new TypeList(MOST_TAKEN);
        final TypeList gives = new TypeList(MOST_TAKEN);
        final TypeList further = new TypeList(MOST_FURTHER);
        final int[] operations = new int[MOST_INSTRUCTIONS];
        final int[] firsts = new int[MOST_INSTRUCTIONS];
        final int[] seconds = new int[MOST_INSTRUCTIONS];
        int size;

        Code(int flags) {
            this.flags = flags;
        }

        int addType(int what, long type) {
            if (what == TAKES) {
                return takes.add(type);
            }
            return what == GIVES ? gives.add(type) : further.add(type);
        }

        int addInstruction(int operation, int a, int b) {
            if (size >= MOST_INSTRUCTIONS) {
                return FULL;
            }
            operations[size] = operation;
            firsts[size] = a;
            seconds[size] = b;
            size++;
            return size;
        }

        boolean hasResources() {
            return (flags & RESOURCES) != 0;
        }

        boolean hasInstruction(int i) {
            return i >= 0 && i < size;
        }

        int localCount() {
            return takes.count + further.count;
        }

        boolean hasLocal(int k) {
            return k >= 0 && k < localCount();
        }

        long localType(int k) {
            return k < takes.count ? takes.get(k) : further.get(k - takes.count);
        }
    }

    /** All that has been told: structures, element types, functions. */
    private static final class Ledger {
        static final int MOST_STRUCTURES = 32;
        static final int MOST_ELEMENTS = 32;
        static final int MOST_CODES = 64;

        private final Structure[] structures = new Structure[MOST_STRUCTURES];
        private int structureCount;
        final TypeList elements = new TypeList(MOST_ELEMENTS);
        private final Code[] codes = new Code[MOST_CODES];
        private int codeCount;

        int addStructure(int abilities) {
            if (structureCount >= MOST_STRUCTURES) {
                return FULL;
            }
            structures[structureCount] = new Structure(abilities);
            structureCount++;
            return structureCount - 1;
        }

        int addCode(int flags) {
            if (codeCount >= MOST_CODES) {
                return FULL;
            }
            codes[codeCount] = new Code(flags);
            codeCount++;
            return codeCount - 1;
        }

        Structure structureAt(int k) {
            return k >= 0 && k < structureCount ? structures[k] : null;
        }

        Structure latestStructure() {
            return structureAt(structureCount - 1);
        }

        Code codeAt(int f) {
            return f >= 0 && f < codeCount ? codes[f] : null;
        }

        Code latestCode() {
            return codeAt(codeCount - 1);
        }

        boolean hasField(int structure, int field) {
            Structure named = structureAt(structure);
            return named != null && named.fields.has(field);
        }

        int fieldCount(int structure) {
            Structure named = structureAt(structure);
            return named == null ? 0 : named.fields.count;
        }

        long fieldType(int structure, int field) {
            Structure named = structureAt(structure);
            return named == null ? 0 : named.fields.get(field);
        }

        /** Goes from place to place: were the bytes cut off one by one, a 0 byte within would be lost. */
        boolean isType(long type) {
            if (type <= 0) {
                return false;
            }
            int place = Type.MOST_BYTES - 1;
            while (place > 0 && Type.byteAt(type, place) == 0) {
                place--;
            }
            if (Type.isReference(type)) {
                place--;
            }
            int vectors = 0;
            while (place >= 0 && Type.byteAt(type, place) == Type.VECTOR) {
                place--;
                vectors++;
            }
            if (place < 0 || vectors > Type.MOST_VECTORS) {
                return false;
            }
            int base = Type.byteAt(type, place);
            if (place == 0) {
                return base >= Type.TRUTH && base <= Type.ADDRESS;
            }
            return place == 1 && base == Type.STRUCTURE && structureAt(Type.byteAt(type, 0)) != null;
        }

        /** A structure shows by its second byte: in no other TYPE is this STRUCTURE. */
        int abilitiesOf(long type) {
            int lead = Type.lead(type);
            if (lead == Type.READING || lead == Type.WRITING) {
                return CAN_COPY | CAN_DROP;
            }
            if (Type.byteAt(type, 1) != Type.STRUCTURE) {
                return CAN_PLAIN;
            }
            Structure named = structureAt(Type.byteAt(type, 0));
            int own = named == null ? 0 : named.abilities;
            return lead == Type.VECTOR ? own & ~CAN_KEY : own;
        }

        boolean can(long type, int ability) {
            return (abilitiesOf(type) & ability) != 0;
        }

        boolean bearsItsAbilities(Structure asked) {
            int needed = asked.abilities & CAN_PLAIN;
            if ((asked.abilities & CAN_KEY) != 0) {
                needed |= CAN_STORE;
            }
            for (int k = 0; k < asked.fields.count; k++) {
                if ((needed & ~abilitiesOf(asked.fields.get(k))) != 0) {
                    return false;
                }
            }
            return true;
        }
    }

    /** The values on the stack; what was taken last is kept until the next is taken. */
    private static final class Stack {
        static final int MOST = 64;

        private final long[] types = new long[MOST];
        private final boolean[] writes = new boolean[MOST];
        private final long[] marks = new long[MOST];
        int height;
        long takenType;
        long takenMarks;

        void clear() {
            height = 0;
        }

        int put(long type, long mark) {
            if (height >= MOST) {
                return TOO_HIGH;
            }
            types[height] = type;
            writes[height] = Type.lead(type) == Type.WRITING;
            marks[height] = mark;
            height++;
            return 0;
        }

        int takeAny() {
            if (height <= 0) {
                return NOTHING_LEFT;
            }
            height--;
            takenType = types[height];
            takenMarks = marks[height];
            return 0;
        }

        int take(long type) {
            int why = takeAny();
            if (why != 0) {
                return why;
            }
            return takenType == type ? 0 : OTHER_TYPE;
        }

        boolean isJust(TypeList wanted) {
            if (height != wanted.count) {
                return false;
            }
            for (int k = 0; k < height; k++) {
                if (types[k] != wanted.get(k)) {
                    return false;
                }
            }
            return true;
        }

        long joined(int which) {
            long all = 0;
            for (int k = 0; k < height; k++) {
                if (which == ALL || (which == THAT_WRITE ? writes[k] : !writes[k] || marks[k] < 0)) {
                    all |= marks[k];
                }
            }
            return all;
        }
    }

    /** The locals of the function looked at, as they are now: a bit of each set for a local. */
    private static final class Locals {
        final long[] marks = new long[Code.MOST_LOCALS];
        int count;
        long there;
        long droppable;
        private long references;
        private long writing;

        void begin(Code code, Ledger ledger) {
            count = Math.min(code.localCount(), Code.MOST_LOCALS);
            there = 0;
            droppable = 0;
            references = 0;
            writing = 0;
            for (int k = 0; k < count; k++) {
                long type = code.localType(k);
                droppable |= ledger.can(type, CAN_DROP) ? bit(k) : 0;
                references |= Type.isReference(type) ? bit(k) : 0;
                writing |= Type.isWriting(type) ? bit(k) : 0;
                marks[k] = 0;
            }
            for (int k = 0; k < code.takes.count; k++) {
                set(k, isReference(k) ? 1L << (FIRST_TAKEN + k) : 0);
            }
        }

        static long bit(int k) {
            return 1L << k;
        }

        boolean isThere(int k) {
            return (there & bit(k)) != 0;
        }

        boolean isReference(int k) {
            return (references & bit(k)) != 0;
        }

        boolean isDroppable(int k) {
            return (droppable & bit(k)) != 0;
        }

        boolean areAllDroppable() {
            return (there & ~droppable) == 0;
        }

        long marksOf(int k) {
            return k >= 0 && k < count ? marks[k] : 0;
        }

        void set(int k, long mark) {
            if (k >= 0 && k < count) {
                there |= bit(k);
                marks[k] = mark;
            }
        }

        void remove(int k) {
            if (k >= 0 && k < count) {
                there &= ~bit(k);
                marks[k] = 0;
            }
        }

        long joined(int which) {
            long all = 0;
            for (int k = 0; k < count; k++) {
                boolean writes = (writing & 1L << k) != 0;
                if (which == ALL || (which == THAT_WRITE ? writes : !writes || marks[k] < 0)) {
                    all |= marks[k];
                }
            }
            return all;
        }
    }

    /**
     * The state in which one comes to each instruction. Of the stack just its height is kept: branches come
     * with an empty one, so that what is on it comes from the instruction right before alone.
     */
    private static final class States {
        private final boolean[] come = new boolean[Code.MOST_INSTRUCTIONS];
        private final int[] heights = new int[Code.MOST_INSTRUCTIONS];
        private final long[] there = new long[Code.MOST_INSTRUCTIONS];
        private final long[] marks = new long[Code.MOST_INSTRUCTIONS * Code.MOST_LOCALS];

        void begin(Locals first) {
            for (int i = 0; i < come.length; i++) {
                come[i] = false;
            }
            keep(0, first);
        }

        boolean isCome(int i) {
            return isPlace(i) && come[i];
        }

        int heightAt(int i) {
            return isPlace(i) ? heights[i] : 0;
        }

        boolean isThere(int i, int k) {
            return isPlace(i) && (there[i] & Locals.bit(k)) != 0;
        }

        long marksAt(int i, int k) {
            return isPlace(i) && k >= 0 && k < Code.MOST_LOCALS ? marks[row(i) + k] : 0;
        }

        /** Makes the locals now what they are when one comes to i. */
        void enter(int i, int height, Locals now) {
            if (isPlace(i)) {
                heights[i] = height;
                now.there = there[i];
                System.arraycopy(marks, row(i), now.marks, 0, now.count);
            }
        }

        /** COMING to instruction j from i. */
        int comeTo(int j, int i, Locals now) {
            if (!isPlace(j)) {
                return NAMES_NOTHING;
            }
            if (j <= i) {
                return fits(j, now) ? 0 : COMES_OTHERWISE;
            }
            if (!come[j]) {
                keep(j, now);
                return 0;
            }
            if (((there[j] ^ now.there) & ~now.droppable) != 0) {
                return COMES_OTHERWISE;
            }
            join(j, now);
            return 0;
        }

        private void keep(int j, Locals now) {
            come[j] = true;
            there[j] = now.there;
            System.arraycopy(now.marks, 0, marks, row(j), now.count);
        }

        private void join(int j, Locals now) {
            there[j] &= now.there;
            for (int k = 0; k < now.count; k++) {
                int at = row(j) + k;
                marks[at] = (there[j] & Locals.bit(k)) == 0 ? 0 : marks[at] | now.marks[k];
            }
        }

        private boolean fits(int j, Locals now) {
            if ((there[j] & ~now.there) != 0 || (now.there & ~there[j] & ~now.droppable) != 0) {
                return false;
            }
            for (int k = 0; k < now.count; k++) {
                boolean kept = (there[j] & Locals.bit(k)) != 0;
                if (kept && (now.marks[k] & ~marks[row(j) + k]) != 0) {
                    return false;
                }
            }
            return true;
        }

        private static boolean isPlace(int i) {
            return i >= 0 && i < Code.MOST_INSTRUCTIONS;
        }

        private static int row(int i) {
            return i * Code.MOST_LOCALS;
        }
    }

    /** LOOKING: goes over a function's instructions, and keeps what one finds when one comes to each. */
    private static final class Looker {
        private final Ledger ledger;
        private final Machine machine;
        final States states = new States();
        private final boolean[] isLedTo = new boolean[Code.MOST_INSTRUCTIONS];
        private Code code;
        private boolean comesFromBefore;
        private boolean isTaken;
        int faultPlace = NO;

        Looker(Ledger ledger) {
            this.ledger = ledger;
            machine = new Machine(ledger);
        }

        void lookAtNothing() {
            code = null;
            isTaken = false;
            faultPlace = NO;
        }

        void forget(Code grown) {
            if (grown == code) {
                isTaken = false;
            }
        }

        boolean isTold(int i) {
            return isTaken && code != null && code.hasInstruction(i);
        }

        boolean isLocal(int k) {
            return code != null && code.hasLocal(k);
        }

        /** 0, or why the function is not taken. */
        int look(Code looked) {
            begin(looked);
            for (int i = 0; i < looked.size; i++) {
                int why = arrive(looked, i);
                if (why == 0) {
                    why = machine.operate(looked, i);
                }
                if (why == 0) {
                    why = goOn(looked, i);
                }
                if (why != 0) {
                    faultPlace = i;
                    return why;
                }
            }
            isTaken = true;
            return 0;
        }

        private void begin(Code looked) {
            lookAtNothing();
            code = looked;
            comesFromBefore = false;
            machine.locals.begin(looked, ledger);
            states.begin(machine.locals);
            for (int i = 0; i < looked.size; i++) {
                isLedTo[i] = false;
            }
            for (int i = 0; i < looked.size; i++) {
                if (Op.branches(looked.operations[i]) && looked.hasInstruction(looked.firsts[i])) {
                    isLedTo[looked.firsts[i]] = true;
                }
            }
        }

        private int arrive(Code looked, int i) {
            if (!states.isCome(i)) {
                return NEVER_COME_TO;
            }
            if (!comesFromBefore) {
                machine.stack.clear();
            }
            states.enter(i, machine.stack.height, machine.locals);
            if (isLedTo[i] && machine.stack.height != 0) {
                return NOT_EMPTY;
            }
            return areOperandsNamed(looked, i) ? 0 : NAMES_NOTHING;
        }

        private boolean areOperandsNamed(Code looked, int i) {
            int operation = looked.operations[i];
            int a = looked.firsts[i];
            int b = looked.seconds[i];
            if (Op.branches(operation)) {
                return looked.hasInstruction(a);
            }
            if (operation >= Op.COPY && operation <= Op.BORROW_WRITING) {
                return looked.hasLocal(a);
            }
            if (operation == Op.FIELD || operation == Op.FIELD_WRITING) {
                return ledger.hasField(a, b);
            }
            if (operation == Op.PACK || operation == Op.UNPACK
                    || (operation >= Op.RESOURCE_PUT && operation <= Op.RESOURCE_BORROW_WRITING)) {
                return ledger.structureAt(a) != null;
            }
            if (operation == Op.CALL) {
                return ledger.codeAt(a) != null;
            }
            if (operation == Op.VECTOR_PACK) {
                return ledger.elements.has(a) && b >= 0 && b <= Stack.MOST;
            }
            if (operation >= Op.VECTOR_LENGTH && operation <= Op.VECTOR_SWAP) {
                return ledger.elements.has(a);
            }
            return true;
        }

        private int goOn(Code looked, int i) {
            int operation = looked.operations[i];
            comesFromBefore = false;
            if (operation == Op.RETURN || operation == Op.ABORT) {
                return 0;
            }
            if (Op.branches(operation)) {
                int why = states.comeTo(looked.firsts[i], i, machine.locals);
                if (why != 0 || operation == Op.BRANCH) {
                    return why;
                }
            }
            if (!looked.hasInstruction(i + 1)) {
                return NO_NEXT;
            }
            comesFromBefore = true;
            return states.comeTo(i + 1, i, machine.locals);
        }
    }

    /** The values now, and what each operation does with them: answered is 0, or why the function is not taken. */
    private static final class Machine {
        /** In place of a type that a reference has to point to: no TYPE is 0. */
        private static final long ANYTHING = 0;

        private final Ledger ledger;
        final Stack stack = new Stack();
        final Locals locals = new Locals();
        private final long[] argumentMarks = new long[Code.MOST_TAKEN];
        private Code code;
        private int a;
        private int b;

        Machine(Ledger ledger) {
            this.ledger = ledger;
        }

        /** Does instruction i, whose operands name what there is. */
        int operate(Code looked, int i) {
            code = looked;
            a = looked.firsts[i];
            b = looked.seconds[i];
            int operation = looked.operations[i];
            if (operation <= Op.BRANCH_WHEN_NOT || operation == Op.ABORT) {
                return steer(operation);
            }
            if (operation <= Op.ADDRESS || operation == Op.NOTHING || operation == Op.OTHER_ADDRESS) {
                return putConstant(operation);
            }
            if (operation <= Op.BORROW_WRITING) {
                return useLocal(operation);
            }
            if (operation <= Op.FREEZE) {
                return useReference(operation);
            }
            if (operation <= Op.CALL) {
                return packOrCall(operation);
            }
            if (operation <= Op.TO_WIDE) {
                return reckon(operation);
            }
            if (operation <= Op.RESOURCE_BORROW_WRITING) {
                return useResource(operation);
            }
            return useVector(operation);
        }

        private int steer(int operation) {
            if (operation == Op.DROP) {
                return drop();
            }
            if (operation == Op.RETURN) {
                return leave();
            }
            if (operation == Op.ABORT) {
                return stack.take(Type.LONG);
            }
            int why = operation == Op.BRANCH ? 0 : stack.take(Type.TRUTH);
            if (why != 0) {
                return why;
            }
            return stack.height == 0 ? 0 : NOT_EMPTY;
        }

        private int drop() {
            int why = stack.takeAny();
            if (why != 0) {
                return why;
            }
            return ledger.can(stack.takenType, CAN_DROP) ? 0 : NO_ABILITY;
        }

        private int leave() {
            if (!stack.isJust(code.gives)) {
                return GIVES_OTHERS;
            }
            if ((stack.joined(ALL) & (OF_LOCALS | OF_RESOURCES)) != 0) {
                return GIVES_OWN;
            }
            return locals.areAllDroppable() ? 0 : LEFT_BEHIND;
        }

        private int putConstant(int operation) {
            switch (operation) {
                case Op.BYTE:
                    return stack.put(Type.BYTE, 0);
                case Op.LONG:
                    return stack.put(Type.LONG, 0);
                case Op.WIDE:
                    return stack.put(Type.WIDE, 0);
                case Op.TRUE:
                case Op.FALSE:
                    return stack.put(Type.TRUTH, 0);
                case Op.ADDRESS:
                case Op.OTHER_ADDRESS:
                    return stack.put(Type.ADDRESS, 0);
                default:
                    return 0;
            }
        }

        private int useLocal(int operation) {
            if (operation == Op.SET) {
                return setLocal();
            }
            if (!locals.isThere(a)) {
                return GONE;
            }
            switch (operation) {
                case Op.COPY:
                    return copyLocal();
                case Op.MOVE:
                    return moveLocal();
                default:
                    return borrowLocal(operation == Op.BORROW_WRITING);
            }
        }

        private int copyLocal() {
            long type = code.localType(a);
            if (!ledger.can(type, CAN_COPY)) {
                return NO_ABILITY;
            }
            if (!locals.isReference(a) && isLive(THAT_WRITE, Locals.bit(a))) {
                return BORROWED;
            }
            return stack.put(type, locals.marksOf(a));
        }

        private int moveLocal() {
            if (!locals.isReference(a) && isLive(ALL, Locals.bit(a))) {
                return BORROWED;
            }
            long mark = locals.marksOf(a);
            locals.remove(a);
            return stack.put(code.localType(a), mark);
        }

        private int setLocal() {
            int why = stack.take(code.localType(a));
            if (why != 0) {
                return why;
            }
            if (locals.isThere(a) && !locals.isDroppable(a)) {
                return NO_ABILITY;
            }
            if (!locals.isReference(a) && isLive(ALL, Locals.bit(a))) {
                return BORROWED;
            }
            locals.set(a, stack.takenMarks);
            return 0;
        }

        private int borrowLocal(boolean writing) {
            if (locals.isReference(a)) {
                return OTHER_TYPE;
            }
            if (isLive(writing ? ALL : THAT_WRITE, Locals.bit(a))) {
                return BORROWED;
            }
            return stack.put(Type.reference(writing, code.localType(a)), Locals.bit(a));
        }

        private int useReference(int operation) {
            switch (operation) {
                case Op.FIELD:
                case Op.FIELD_WRITING:
                    return borrowField(operation == Op.FIELD_WRITING);
                case Op.READ:
                    return read();
                case Op.WRITE:
                    return write();
                default:
                    return freeze();
            }
        }

        private int borrowField(boolean writing) {
            int why = takeReference(writing, Type.numbered(a));
            if (why != 0) {
                return why;
            }
            return stack.put(Type.reference(writing, ledger.fieldType(a, b)), stack.takenMarks | INSIDE);
        }

        private int read() {
            int why = takeReference(false, ANYTHING);
            if (why != 0) {
                return why;
            }
            long type = Type.inner(stack.takenType);
            return ledger.can(type, CAN_COPY) ? stack.put(type, 0) : NO_ABILITY;
        }

        private int write() {
            int why = takeReference(true, ANYTHING);
            if (why != 0) {
                return why;
            }
            long type = Type.inner(stack.takenType);
            long mark = stack.takenMarks;
            why = stack.take(type);
            if (why != 0) {
                return why;
            }
            if (!ledger.can(type, CAN_DROP)) {
                return NO_ABILITY;
            }
            return needsSole(mark);
        }

        private int freeze() {
            int why = takeReference(true, ANYTHING);
            if (why != 0) {
                return why;
            }
            return stack.put(Type.reference(false, Type.inner(stack.takenType)), stack.takenMarks);
        }

        private int packOrCall(int operation) {
            switch (operation) {
                case Op.PACK:
                    return pack();
                case Op.UNPACK:
                    return unpack();
                default:
                    return callNamed();
            }
        }

        private int pack() {
            for (int k = ledger.fieldCount(a) - 1; k >= 0; k--) {
                int why = stack.take(ledger.fieldType(a, k));
                if (why != 0) {
                    return why;
                }
            }
            return stack.put(Type.numbered(a), 0);
        }

        private int unpack() {
            int why = stack.take(Type.numbered(a));
            int count = ledger.fieldCount(a);
            for (int k = 0; k < count && why == 0; k++) {
                why = stack.put(ledger.fieldType(a, k), 0);
            }
            return why;
        }

        private int callNamed() {
            Code called = ledger.codeAt(a);
            if (called == null) {
                return NAMES_NOTHING;
            }
            int why = takeArguments(called);
            if (why != 0) {
                return why;
            }
            if (called.hasResources() && !code.hasResources()) {
                return NO_RESOURCES;
            }
            if (!areWritingArgumentsSole(called)) {
                return BORROWED;
            }
            long fromAll = argumentOrigins(called, false);
            if (called.hasResources() && ((fromAll & OF_RESOURCES) != 0 || isLive(ALL, OF_RESOURCES))) {
                return BORROWED;
            }
            return putGiven(called, fromAll, argumentOrigins(called, true));
        }

        private int takeArguments(Code called) {
            int why = 0;
            for (int k = called.takes.count - 1; k >= 0 && why == 0; k--) {
                why = stack.take(called.takes.get(k));
                argumentMarks[k] = stack.takenMarks;
            }
            return why;
        }

        /** Beside what is LIVE then, any other argument that MEETS a writing one bars it. */
        private boolean areWritingArgumentsSole(Code called) {
            long barring = live(THAT_BAR);
            for (int k = 0; k < called.takes.count; k++) {
                if (Type.isWriting(called.takes.get(k))) {
                    long others = barring;
                    for (int other = 0; other < called.takes.count; other++) {
                        others |= other == k ? 0 : argumentMarks[other] & ORIGINS;
                    }
                    if ((others & argumentMarks[k]) != 0) {
                        return false;
                    }
                }
            }
            return true;
        }

        private long argumentOrigins(Code called, boolean writingAlone) {
            long all = 0;
            for (int k = 0; k < called.takes.count; k++) {
                if (!writingAlone || Type.isWriting(called.takes.get(k))) {
                    all |= argumentMarks[k];
                }
            }
            return all & ORIGINS;
        }

        private int putGiven(Code called, long fromAll, long fromWriting) {
            int why = 0;
            for (int k = 0; k < called.gives.count && why == 0; k++) {
                long type = called.gives.get(k);
                long from = Type.isWriting(type) ? fromWriting : fromAll;
                why = stack.put(type, Type.isReference(type) ? from | INSIDE : 0);
            }
            return why;
        }

        private int reckon(int operation) {
            if (operation <= Op.LAST_BITWISE) {
                int why = takeTwoNumbers(operation > Op.LAST_ARITHMETIC);
                return why != 0 ? why : stack.put(stack.takenType, 0);
            }
            if (operation <= Op.LAST_SHIFT) {
                return shift();
            }
            if (operation == Op.NOT) {
                int why = stack.take(Type.TRUTH);
                return why != 0 ? why : stack.put(Type.TRUTH, 0);
            }
            if (operation <= Op.UNEQUAL) {
                return compareAny();
            }
            if (operation <= Op.LAST_ORDER) {
                int why = takeTwoNumbers(false);
                return why != 0 ? why : stack.put(Type.TRUTH, 0);
            }
            int why = takeNumber(false);
            return why != 0 ? why : stack.put(widthOf(operation), 0);
        }

        private static long widthOf(int operation) {
            switch (operation) {
                case Op.TO_BYTE:
                    return Type.BYTE;
                case Op.TO_LONG:
                    return Type.LONG;
                default:
                    return Type.WIDE;
            }
        }

        private int takeNumber(boolean orTruth) {
            int why = stack.takeAny();
            if (why != 0) {
                return why;
            }
            boolean isRight = Type.isNumber(stack.takenType) || (orTruth && stack.takenType == Type.TRUTH);
            return isRight ? 0 : OTHER_TYPE;
        }

        private int takeTwoNumbers(boolean orTruths) {
            int why = takeNumber(orTruths);
            return why != 0 ? why : stack.take(stack.takenType);
        }

        private int shift() {
            int why = stack.take(Type.BYTE);
            if (why == 0) {
                why = takeNumber(false);
            }
            return why != 0 ? why : stack.put(stack.takenType, 0);
        }

        private int compareAny() {
            int why = stack.takeAny();
            if (why != 0) {
                return why;
            }
            if (Type.isReference(stack.takenType)) {
                return OTHER_TYPE;
            }
            why = stack.take(stack.takenType);
            if (why != 0) {
                return why;
            }
            return ledger.can(stack.takenType, CAN_DROP) ? stack.put(Type.TRUTH, 0) : NO_ABILITY;
        }

        private int useResource(int operation) {
            long type = Type.numbered(a);
            int why = stack.take(operation == Op.RESOURCE_PUT ? type : Type.ADDRESS);
            if (why != 0) {
                return why;
            }
            if (!code.hasResources()) {
                return NO_RESOURCES;
            }
            if (!ledger.can(type, CAN_KEY)) {
                return NO_ABILITY;
            }
            long origin = 1L << (FIRST_RESOURCE + a % RESOURCE_ORIGINS);
            switch (operation) {
                case Op.RESOURCE_PUT:
                    return 0;
                case Op.RESOURCE_ASK:
                    return stack.put(Type.TRUTH, 0);
                case Op.RESOURCE_TAKE:
                    return isLive(ALL, origin) ? BORROWED : stack.put(type, 0);
                default:
                    return borrowResource(operation == Op.RESOURCE_BORROW_WRITING, type, origin);
            }
        }

        private int borrowResource(boolean writing, long type, long origin) {
            if (isLive(writing ? ALL : THAT_WRITE, origin)) {
                return BORROWED;
            }
            return stack.put(Type.reference(writing, type), origin);
        }

        private int useVector(int operation) {
            long element = ledger.elements.get(a);
            switch (operation) {
                case Op.VECTOR_PACK:
                    return packVector(element);
                case Op.VECTOR_LENGTH:
                    return measureVector(element);
                case Op.VECTOR_BORROW:
                case Op.VECTOR_BORROW_WRITING:
                    return borrowElement(operation == Op.VECTOR_BORROW_WRITING, element);
                case Op.HASH:
                    return hash();
                default:
                    return changeVector(operation, element);
            }
        }

        private int packVector(long element) {
            int why = 0;
            for (int k = 0; k < b && why == 0; k++) {
                why = stack.take(element);
            }
            return why != 0 ? why : stack.put(Type.of(Type.VECTOR, element), 0);
        }

        private int measureVector(long element) {
            int why = takeReference(false, Type.of(Type.VECTOR, element));
            return why != 0 ? why : stack.put(Type.LONG, 0);
        }

        private int borrowElement(boolean writing, long element) {
            int why = stack.take(Type.LONG);
            if (why == 0) {
                why = takeReference(writing, Type.of(Type.VECTOR, element));
            }
            if (why != 0) {
                return why;
            }
            return stack.put(Type.reference(writing, element), stack.takenMarks | INSIDE);
        }

        private int changeVector(int operation, long element) {
            int why = 0;
            if (operation == Op.VECTOR_PUSH) {
                why = stack.take(element);
            } else if (operation == Op.VECTOR_SWAP) {
                why = stack.take(Type.LONG);
                why = why != 0 ? why : stack.take(Type.LONG);
            }
            if (why == 0) {
                why = takeReference(true, Type.of(Type.VECTOR, element));
            }
            if (why == 0) {
                why = needsSole(stack.takenMarks);
            }
            return why == 0 && operation == Op.VECTOR_POP ? stack.put(element, 0) : why;
        }

        private int hash() {
            int why = stack.take(Type.VECTOR_OF_BYTE);
            return why != 0 ? why : stack.put(Type.VECTOR_OF_BYTE, 0);
        }

        /** A reference of either kind will do when it needs not write. */
        private int takeReference(boolean writing, long target) {
            int why = stack.takeAny();
            if (why != 0) {
                return why;
            }
            long type = stack.takenType;
            if (!Type.isReference(type) || (target != ANYTHING && Type.inner(type) != target)) {
                return OTHER_TYPE;
            }
            return writing && !Type.isWriting(type) ? NOT_WRITING : 0;
        }

        /** The reference asked about is off the stack by then, so that all that are LIVE are others. */
        private int needsSole(long mark) {
            return (live(THAT_BAR) & mark) != 0 ? BORROWED : 0;
        }

        private boolean isLive(int which, long origins) {
            return (live(which) & origins) != 0;
        }

        private long live(int which) {
            return (stack.joined(which) | locals.joined(which)) & ORIGINS;
        }
    }
}
