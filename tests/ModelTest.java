import java.util.ArrayList;
import java.util.List;
import java.util.TreeMap;

/**
 * Compares the program with the Model on many functions, grown instruction by instruction so that they are often
 * taken.
 */
public final class ModelTest {
    private static final int LEDGERS = 3000;
    private static final int TRIES = 12;
    private static final int MOST_CALLS = 512;
    private static final int ASKS = 40;

    private static long seed = 20261119;
    private static int wrong = 0;
    /** Of the object at hand: what it answers after MOST_CALLS is free. */
    private static int calls = 0;
    private static final TreeMap<String, Integer> SEEN = new TreeMap<>();

    private static int below(int n) {
        seed = seed * 6364136223846793005L + 1442695040888963407L;
        return (int) ((seed >>> 33) % n);
    }

    private static boolean oneIn(int n) {
        return below(n) == 0;
    }

    private static void due(String what, long got, long want) {
        calls++;
        if (got != want && calls <= MOST_CALLS) {
            wrong++;
            if (wrong < 40) {
                System.out.println(what + " answered " + got + ", due is " + want);
            }
        }
    }

    public static void main(String[] args) {
        for (int k = 0; k < LEDGERS; k++) {
            compareLedger();
        }
        if (args.length > 0) {
            System.out.println(SEEN);
        }
        if (wrong != 0) {
            System.out.println(wrong + " answers are not as due");
            System.exit(1);
        }
    }

    private static String plainType(Model m) {
        String[] plain = {"01", "02", "03", "03", "04", "05", "0702", "0703"};
        String base = oneIn(2) || m.structures.isEmpty() ? plain[below(plain.length)]
                : m.structureType(below(m.structures.size()));
        return oneIn(5) ? "07" + base : base;
    }

    private static String anyType(Model m) {
        return oneIn(3) ? (oneIn(2) ? "08" : "09") + plainType(m) : plainType(m);
    }

    private static long number(String type) {
        return Long.parseLong(type, 16);
    }

    private static void compareLedger() {
        AbilityChecker x = new AbilityChecker();
        calls = 0;
        Model m = new Model();
        tellStructures(x, m);
        tellElements(x, m);
        int functions = 2 + below(7);
        for (int f = 0; f < functions && calls < MOST_CALLS; f++) {
            tellFunction(x, m, f);
            compareLook(x, m, below(f + 1));
            compareLook(x, m, f);
        }
    }

    private static void tellStructures(AbilityChecker x, Model m) {
        int structures = oneIn(4) ? 17 : 1 + below(5);
        for (int s = 0; s < structures; s++) {
            int abilities = oneIn(3) ? 15 : oneIn(3) ? 7 : below(16);
            due("structure", x.structure(abilities), s);
            m.structures.add(abilities);
            m.fields.add(new ArrayList<>());
            int fields = below(4);
            for (int k = 0; k < fields; k++) {
                String type = plainType(m);
                m.fields.get(s).add(type);
                due("field", x.field(number(type)), k + 1);
            }
        }
        for (int s = 0; s < structures; s++) {
            due("bears", x.bears(s), m.bears(s) ? 1 : 0);
            due("abilities", x.abilities(number("07" + m.structureType(s))), m.structures.get(s) & 7);
        }
    }

    private static void tellElements(AbilityChecker x, Model m) {
        int elements = 1 + below(5);
        for (int e = 0; e < elements; e++) {
            String type = e == 0 ? "02" : plainType(m);
            m.elements.add(type);
            due("element", x.element(number(type)), e);
        }
    }

    private static void tellFunction(AbilityChecker x, Model m, int f) {
        int flags = oneIn(2) ? 4 : below(8);
        due("function", x.function(flags), f);
        Model.Function made = new Model.Function();
        made.flags = flags;
        m.functions.add(made);
        for (int what = 0; what < 3; what++) {
            List<String> list = what == 0 ? made.takes : what == 1 ? made.gives : made.further;
            int count = what == 2 ? below(5) : below(3);
            for (int k = 0; k < count; k++) {
                String type = anyType(m);
                list.add(type);
                due("list", x.list(what, number(type)), k + 1);
            }
        }
        grow(m, f, made, below(30));
        for (int k = 0; k < made.code.size(); k++) {
            int[] i = made.code.get(k);
            due("instruction", x.instruction(i[0], i[1], i[2]), k + 1);
        }
    }

    /** Puts instructions, one after another, in place of ones that do nothing; most of those kept are taken. */
    private static void grow(Model m, int f, Model.Function made, int length) {
        for (int k = 0; k < length; k++) {
            made.code.add(new int[] {35, 0, 0});
        }
        if (oneIn(2)) {
            made.code.add(new int[] {6, 0, 0});
            made.code.add(new int[] {45, 0, 0});
        } else {
            made.code.add(new int[] {oneIn(8) ? 35 : 1, 0, 0});
        }
        for (int k = 0; k < length; k++) {
            int[] idle = made.code.get(k);
            for (int t = 0; t < TRIES; t++) {
                made.code.set(k, someInstruction(m, made, k));
                int why = m.check(f);
                if (why == 0 || (m.place > k && why != -10)) {
                    break;
                }
                boolean ended = m.place > k ? oneIn(20) : oneIn(isTelling(-why) ? 4 : 300);
                if (ended) {
                    return;
                }
                made.code.set(k, idle);
            }
        }
    }

    /** The faults that hang on abilities, origins and states, which but few functions have. */
    private static boolean isTelling(int why) {
        return why == 4 || why == 6 || why == 7 || why == 9 || why >= 13 && why <= 15;
    }

    private static int[] someInstruction(Model m, Model.Function made, int at) {
        int[] often = {11, 12, 12, 13, 13, 14, 15, 15, 16, 17, 18, 19, 20, 23, 23, 0, 0, 3, 4, 2, 50, 51, 56, 57,
            54, 55};
        int op = oneIn(2) ? below(60) : often[below(often.length)];
        int a = below(4);
        if (op >= 2 && op <= 4) {
            a = oneIn(3) ? below(made.code.size()) : Math.min(made.code.size(), at + 1 + below(6));
        } else if (op >= 11 && op <= 15) {
            a = below(made.locals().size() + 1);
        } else if (op == 16 || op == 17 || op == 21 || op == 22 || (op >= 47 && op <= 51)) {
            a = below(m.structures.size());
        } else if (op == 23) {
            a = below(m.functions.size());
        } else if (op >= 52) {
            a = below(m.elements.size());
        }
        if (oneIn(200)) {
            a = below(200) - 100;
        }
        return new int[] {op, a, below(3)};
    }

    private static void compareLook(AbilityChecker x, Model m, int f) {
        int why = m.check(f);
        due("check", x.check(f), why);
        due("place", x.place(), m.place);
        List<int[]> code = m.functions.get(f).code;
        String key = why == 0 ? "taken" : why + " by " + code.get(m.place)[0];
        SEEN.merge(key, 1, Integer::sum);
        for (int k = 0; k < ASKS; k++) {
            compareAsk(x, m, f, code.size());
        }
    }

    private static void compareAsk(AbilityChecker x, Model m, int f, int size) {
        int locals = m.functions.get(f).locals().size();
        int i = below(size + 2) - 1;
        int k = below(locals + 2) - 1;
        Model.State state = m.states == null || i < 0 || i >= size ? null : m.states[i];
        boolean isLocal = state != null && k >= 0 && k < locals;
        Model.Value held = isLocal ? state.locals.get(k) : null;
        if (oneIn(4)) {
            due("height", x.height(i), state == null ? -1 : state.stack.size());
        } else if (oneIn(3)) {
            due("there", x.there(i, k), !isLocal ? -1 : held == null ? 0 : 1);
        } else {
            due("origins", x.origins(i, k), held == null ? 0 : bits(held));
        }
    }

    private static long bits(Model.Value held) {
        long bits = held.inside ? 1L << 63 : 0;
        for (int origin : held.origins) {
            bits |= 1L << origin;
        }
        return bits;
    }
}
