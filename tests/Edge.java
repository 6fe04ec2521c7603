/** The ledger that the tests of edges share, in which structure k (below 16) has the abilities k. */
final class Edge {
    static final int BAD = -1;
    static final int NO = -2;
    static final int FULL = -3;
    static final long INSIDE = 1L << 63;

    static final long TRUTH = 1;
    static final long BYTE = 2;
    static final long LONG = 3;
    static final long WIDE = 4;
    static final long ADDRESS = 5;
    /** A structure that may all but be a key, of a long and a truth. */
    static final long PLAIN = 0x0607;
    /** One without abilities, and ones of a single one; they have no fields. */
    static final long BARE = 0x0600;
    static final long COPIES = 0x0601;
    static final long DROPS = 0x0602;
    static final long KEY = 0x0608;

    static final String ABORT = "; 6; 45";

    private Edge() {
    }

    /**
     * 32 structures: of the first 16, 7 has a long and a truth, 15 an address, and no other a field; 16 .. 31 have a
     * key alone, and no field. Element types: a long, a byte, structure 0, a vector of four 7s, structure 7, a truth.
     */
    static Told world() {
        Told told = new Told();
        for (int k = 0; k < 16; k++) {
            if (k == 7) {
                told.structure(k, LONG, TRUTH);
            } else if (k == 15) {
                told.structure(k, ADDRESS);
            } else {
                told.structure(k);
            }
        }
        for (int k = 16; k < 32; k++) {
            told.structure(8);
        }
        return told.element(LONG).element(BYTE).element(BARE).element(0x0707070703L).element(PLAIN).element(TRUTH);
    }

    /** That world with a function that takes these: its number is 0. */
    static Told of(int flags, long... takes) {
        return world().function(flags).takes(takes);
    }

    static long structure(int k) {
        return 0x0600 + k;
    }

    static long vector(long type) {
        return led(7, type);
    }

    static long reading(long type) {
        return led(8, type);
    }

    static long writing(long type) {
        return led(9, type);
    }

    /** A byte, then a TYPE's. */
    static long led(int lead, long type) {
        String rest = Long.toHexString(type);
        String whole = Integer.toHexString(lead) + (rest.length() % 2 == 0 ? "" : "0") + rest;
        return Long.parseUnsignedLong(whole, 16);
    }

    static long sevens(int count, long type) {
        long all = type;
        for (int k = 0; k < count; k++) {
            all = vector(all);
        }
        return all;
    }

    static String times(int count, String code) {
        return code.isEmpty() ? "" : (code + "; ").repeat(count);
    }

    /** How many instructions the code has. */
    static int length(String code) {
        int count = 0;
        for (String part : code.split(";")) {
            String one = part.trim();
            if (!one.isEmpty()) {
                count += one.contains("*") ? Integer.parseInt(one.substring(0, one.indexOf('*')).trim()) : 1;
            }
        }
        return count;
    }

    static long bits(int... origins) {
        long all = 0;
        for (int origin : origins) {
            all |= 1L << origin;
        }
        return all;
    }
}
