/** Calls with any arguments in any state, also many more than an object is used for: none throws, none fails to end. */
public final class WildTest {
    private static final int OBJECTS = 60;
    private static final int CALLS = 4000;
    private static final long[] EDGES = {0, 1, 2, 3, 5, 6, 7, 8, 9, 15, 16, 31, 32, 39, 40, 59, 60, 63, 64, 65, 255, 256,
        -1, -2, Integer.MAX_VALUE, Integer.MIN_VALUE, Long.MAX_VALUE, Long.MIN_VALUE, 0x0600, 0x0803, 0x090601, 0x070602,
        0x070707070601L, 0x09070707070601L, 0x0907070707070601L, 0x0707070707070707L, 0x0909090909090909L};

    private static long seed = 7;

    private static int below(int n) {
        seed = seed * 6364136223846793005L + 1442695040888963407L;
        return (int) ((seed >>> 33) % n);
    }

    private static long wild() {
        return below(3) > 0 ? EDGES[below(EDGES.length)] : seed >> below(64);
    }

    private static int small() {
        return below(20) == 0 ? (int) wild() : below(6);
    }

    public static void main(String[] args) {
        for (int k = 0; k < OBJECTS; k++) {
            AbilityChecker x = new AbilityChecker();
            for (int call = 0; call < CALLS; call++) {
                one(x, below(16));
            }
        }
        Due.end();
    }

    private static void one(AbilityChecker x, int which) {
        switch (which) {
            case 0:
                x.structure(below(17));
                break;
            case 1:
                x.field(wild());
                break;
            case 2:
                x.abilities(wild());
                break;
            case 3:
                x.bears((int) wild());
                break;
            case 4:
                x.element(wild());
                break;
            case 5:
                x.function(below(60) == 0 ? below(9) : 8);
                break;
            case 6:
                x.list(below(4), wild());
                break;
            case 7:
                x.check(below(8) == 0 ? (int) wild() : below(64));
                x.place();
                break;
            case 8:
                x.height((int) wild());
                break;
            case 9:
                x.there((int) wild(), (int) wild());
                break;
            case 10:
                x.origins((int) wild(), (int) wild());
                break;
            default:
                x.instruction(below(60), small(), small());
                break;
        }
    }
}
