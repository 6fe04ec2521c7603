import java.util.ArrayList;
import java.util.Collections;
import java.util.HashSet;
import java.util.List;
import java.util.Set;

/**
 * The document once more, in other words: types are texts of hexadecimal bytes, origins are sets of numbers, and a
 * whole state, stack and all, is kept for each instruction. Slow and plain, so that ModelTest may compare with it.
 */
final class Model {
    /** The first fault that is found: why, thrown from where it is found. */
    static final class Fault extends RuntimeException {
        private static final long serialVersionUID = 1;
        final int why;

        Fault(int why) {
            super(null, null, false, false);
            this.why = why;
        }
    }

    static final class Value {
        final String type;
        final Set<Integer> origins = new HashSet<>();
        boolean inside;

        Value(String type) {
            this.type = type;
        }

        Value(String type, Value from, boolean inside) {
            this.type = type;
            origins.addAll(from.origins);
            this.inside = inside;
        }

        boolean refers() {
            return type.startsWith("08") || type.startsWith("09");
        }

        boolean writes() {
            return type.startsWith("09");
        }

        String target() {
            return type.substring(2);
        }

        boolean meets(Value other) {
            return !Collections.disjoint(origins, other.origins);
        }
    }

    static final class State {
        final List<Value> stack = new ArrayList<>();
        final List<Value> locals = new ArrayList<>();

        State copy() {
            State copy = new State();
            for (Value v : stack) {
                copy.stack.add(new Value(v.type, v, v.inside));
            }
            for (Value v : locals) {
                copy.locals.add(v == null ? null : new Value(v.type, v, v.inside));
            }
            return copy;
        }

        List<Value> live() {
            List<Value> live = new ArrayList<>();
            for (Value v : stack) {
                if (v.refers()) {
                    live.add(v);
                }
            }
            for (Value v : locals) {
                if (v != null && v.refers()) {
                    live.add(v);
                }
            }
            return live;
        }
    }

    static final class Function {
        int flags;
        final List<String> takes = new ArrayList<>();
        final List<String> gives = new ArrayList<>();
        final List<String> further = new ArrayList<>();
        final List<int[]> code = new ArrayList<>();

        List<String> locals() {
            List<String> all = new ArrayList<>(takes);
            all.addAll(further);
            return all;
        }
    }

    final List<Integer> structures = new ArrayList<>();
    final List<List<String>> fields = new ArrayList<>();
    final List<String> elements = new ArrayList<>();
    final List<Function> functions = new ArrayList<>();

    /** What the latest look left. */
    int place;
    State[] states;

    private Function f;
    private State now;
    private int a;
    private int b;

    static String text(long type) {
        String hex = Long.toHexString(type);
        return hex.length() % 2 == 0 ? hex : "0" + hex;
    }

    boolean isType(String t) {
        if (!t.matches("(08|09)?(07){0,4}(0[1-5]|06[0-9a-f][0-9a-f])")) {
            return false;
        }
        return !isStructure(t) || Integer.parseInt(t.substring(t.length() - 2), 16) < structures.size();
    }

    private static boolean isStructure(String t) {
        return t.matches("(08|09)?(07)*06..");
    }

    String structureType(int k) {
        return String.format("06%02x", k);
    }

    int abilities(String t) {
        if (t.startsWith("08") || t.startsWith("09")) {
            return 3;
        }
        if (t.startsWith("07")) {
            return abilities(t.substring(2)) & 7;
        }
        return t.length() == 2 ? 7 : structures.get(Integer.parseInt(t.substring(2), 16));
    }

    private boolean can(String t, int ability) {
        return (abilities(t) & ability) == ability;
    }

    boolean bears(int k) {
        for (int ability : new int[] {1, 2, 4}) {
            boolean needed = (structures.get(k) & ability) != 0 || (ability == 4 && (structures.get(k) & 8) != 0);
            for (String t : fields.get(k)) {
                if (needed && !can(t, ability)) {
                    return false;
                }
            }
        }
        return true;
    }

    int check(int number) {
        place = -2;
        states = null;
        if (number < 0 || number >= functions.size() || functions.get(number).code.isEmpty()) {
            return -101;
        }
        f = functions.get(number);
        State[] come = new State[f.code.size()];
        come[0] = first();
        for (int i = 0; i < come.length; i++) {
            try {
                lookAt(i, come);
            } catch (Fault fault) {
                place = i;
                return -fault.why;
            }
        }
        states = come;
        return 0;
    }

    private State first() {
        State state = new State();
        for (String t : f.takes) {
            Value v = new Value(t);
            if (v.refers()) {
                v.origins.add(40 + state.locals.size());
            }
            state.locals.add(v);
        }
        for (int k = 0; k < f.further.size(); k++) {
            state.locals.add(null);
        }
        return state;
    }

    private void lookAt(int i, State[] come) {
        need(come[i] != null, 10);
        now = come[i].copy();
        int op = f.code.get(i)[0];
        a = f.code.get(i)[1];
        b = f.code.get(i)[2];
        for (int[] other : f.code) {
            if (other[0] >= 2 && other[0] <= 4 && other[1] == i) {
                need(now.stack.isEmpty(), 8);
            }
        }
        need(namesWhatIs(op), 16);
        operate(op);
        if (op == 2 || op == 3 || op == 4) {
            come(i, a, come);
        }
        if (op != 1 && op != 2 && op != 45) {
            need(i + 1 < come.length, 11);
            come(i, i + 1, come);
        }
    }

    private boolean namesWhatIs(int op) {
        switch (op) {
            case 2: case 3: case 4:
                return in(a, f.code.size());
            case 11: case 12: case 13: case 14: case 15:
                return in(a, f.locals().size());
            case 16: case 17:
                return in(a, structures.size()) && in(b, fields.get(a).size());
            case 21: case 22: case 47: case 48: case 49: case 50: case 51:
                return in(a, structures.size());
            case 23:
                return in(a, functions.size());
            case 52:
                return in(a, elements.size()) && in(b, 65);
            case 53: case 54: case 55: case 56: case 57: case 58:
                return in(a, elements.size());
            default:
                return true;
        }
    }

    private static boolean in(int k, int size) {
        return k >= 0 && k < size;
    }

    private static void need(boolean holds, int otherwise) {
        if (!holds) {
            throw new Fault(otherwise);
        }
    }

    private void come(int i, int j, State[] come) {
        if (j > i && come[j] == null) {
            come[j] = now.copy();
            return;
        }
        State there = come[j];
        for (int k = 0; k < now.locals.size(); k++) {
            Value mine = now.locals.get(k);
            Value its = there.locals.get(k);
            boolean drop = can(f.locals().get(k), 2);
            if (j > i) {
                if (mine == null || its == null) {
                    need((mine == null && its == null) || drop, 9);
                    there.locals.set(k, null);
                } else {
                    its.origins.addAll(mine.origins);
                    its.inside |= mine.inside;
                }
            } else if (its != null) {
                need(mine != null && its.origins.containsAll(mine.origins) && (its.inside || !mine.inside), 9);
            } else {
                need(mine == null || drop, 9);
            }
        }
        if (j > i) {
            // one of the two stacks is empty, and 8 follows at j when the other is not
            there.stack.addAll(now.copy().stack);
        }
    }

    private void put(Value v) {
        need(now.stack.size() < 64, 2);
        now.stack.add(v);
    }

    private void put(String type) {
        put(new Value(type));
    }

    private Value take() {
        need(!now.stack.isEmpty(), 1);
        return now.stack.remove(now.stack.size() - 1);
    }

    private Value take(String type) {
        Value v = take();
        need(v.type.equals(type), 3);
        return v;
    }

    private Value takeOneOf(String... types) {
        Value v = take();
        need(List.of(types).contains(v.type), 3);
        return v;
    }

    /** target null: whatever it is. */
    private Value takeReference(String target, boolean toWrite) {
        Value v = take();
        need(v.refers() && (target == null || v.target().equals(target)), 3);
        need(!toWrite || v.writes(), 7);
        return v;
    }

    private void needFree(boolean writingOnesAlone, int origin) {
        for (Value v : now.live()) {
            need(!(v.origins.contains(origin) && (v.writes() || !writingOnesAlone)), 6);
        }
    }

    private void needSole(Value reference) {
        for (Value v : now.live()) {
            need(!v.meets(reference) || (v.writes() && !v.inside), 6);
        }
    }

    private void operate(int op) {
        if (op <= 4 || op == 45) {
            steer(op);
        } else if (op <= 10 || op == 46 || op == 35) {
            String[] put = {"02", "03", "04", "01", "01", "05"};
            if (op != 35) {
                put(op == 46 ? "05" : put[op - 5]);
            }
        } else if (op <= 15) {
            local(op);
        } else if (op <= 20) {
            reference(op);
        } else if (op <= 22) {
            pack(op == 21);
        } else if (op == 23) {
            call(functions.get(a));
        } else if (op <= 44) {
            number(op);
        } else if (op <= 51) {
            resource(op);
        } else {
            vector(op);
        }
    }

    private void steer(int op) {
        if (op == 0) {
            need(can(take().type, 2), 4);
        } else if (op == 45) {
            take("03");
        } else if (op == 1) {
            List<String> left = new ArrayList<>();
            for (Value v : now.stack) {
                left.add(v.type);
            }
            need(left.equals(f.gives), 12);
            for (Value v : now.stack) {
                for (int origin : v.origins) {
                    need(origin >= 40 && origin <= 47, 14);
                }
            }
            for (Value v : now.locals) {
                need(v == null || can(v.type, 2), 13);
            }
        } else {
            if (op != 2) {
                take("01");
            }
            need(now.stack.isEmpty(), 8);
        }
    }

    private void local(int op) {
        String type = f.locals().get(a);
        boolean plain = !new Value(type).refers();
        Value held = now.locals.get(a);
        if (op == 13) {
            Value v = take(type);
            need(held == null || can(type, 2), 4);
            if (plain) {
                needFree(false, a);
            }
            now.locals.set(a, v);
            return;
        }
        need(held != null, 5);
        if (op == 11) {
            need(can(type, 1), 4);
            if (plain) {
                needFree(true, a);
            }
            put(new Value(type, held, held.inside));
        } else if (op == 12) {
            if (plain) {
                needFree(false, a);
            }
            now.locals.set(a, null);
            put(held);
        } else {
            need(plain, 3);
            needFree(op == 14, a);
            Value borrowed = new Value((op == 14 ? "08" : "09") + type);
            borrowed.origins.add(a);
            put(borrowed);
        }
    }

    private void reference(int op) {
        if (op <= 17) {
            Value v = takeReference(structureType(a), op == 17);
            put(new Value((op == 17 ? "09" : "08") + fields.get(a).get(b), v, true));
            return;
        }
        Value v = takeReference(null, op != 18);
        if (op == 18) {
            need(can(v.target(), 1), 4);
            put(v.target());
        } else if (op == 19) {
            take(v.target());
            need(can(v.target(), 2), 4);
            needSole(v);
        } else {
            put(new Value("08" + v.target(), v, v.inside));
        }
    }

    private void pack(boolean packs) {
        if (packs) {
            for (int k = fields.get(a).size() - 1; k >= 0; k--) {
                take(fields.get(a).get(k));
            }
            put(structureType(a));
        } else {
            take(structureType(a));
            for (String t : fields.get(a)) {
                put(t);
            }
        }
    }

    private void call(Function called) {
        List<Value> taken = new ArrayList<>();
        for (int k = called.takes.size() - 1; k >= 0; k--) {
            taken.add(take(called.takes.get(k)));
        }
        boolean resources = (called.flags & 4) != 0;
        need(!resources || (f.flags & 4) != 0, 15);
        Value given = new Value("08");
        Value givenWriting = new Value("09");
        for (Value v : taken) {
            given.origins.addAll(v.origins);
            if (v.writes()) {
                givenWriting.origins.addAll(v.origins);
                needSole(v);
                for (Value other : taken) {
                    need(other == v || !other.meets(v), 6);
                }
            }
        }
        if (resources) {
            List<Value> all = now.live();
            all.addAll(taken);
            for (Value v : all) {
                for (int origin : v.origins) {
                    need(origin <= 47, 6);
                }
            }
        }
        for (String t : called.gives) {
            Value v = new Value(t);
            put(!v.refers() ? v : new Value(t, v.writes() ? givenWriting : given, true));
        }
    }

    private void number(int op) {
        String type;
        if (op <= 28 || (op >= 38 && op <= 41)) {
            type = takeOneOf("02", "03", "04").type;
            take(type);
            put(op <= 28 ? type : "01");
        } else if (op <= 31) {
            type = takeOneOf("01", "02", "03", "04").type;
            take(type);
            put(type);
        } else if (op <= 33) {
            take("02");
            put(takeOneOf("02", "03", "04").type);
        } else if (op == 34) {
            take("01");
            put("01");
        } else if (op <= 37) {
            Value v = take();
            need(!v.refers(), 3);
            take(v.type);
            need(can(v.type, 2), 4);
            put("01");
        } else {
            takeOneOf("02", "03", "04");
            put(op == 42 ? "02" : op == 43 ? "03" : "04");
        }
    }

    private void resource(int op) {
        String type = structureType(a);
        take(op == 47 ? type : "05");
        need((f.flags & 4) != 0, 15);
        need(can(type, 8), 4);
        int origin = 48 + a % 15;
        if (op == 48) {
            needFree(false, origin);
            put(type);
        } else if (op == 49) {
            put("01");
        } else if (op >= 50) {
            needFree(op == 50, origin);
            Value v = new Value((op == 50 ? "08" : "09") + type);
            v.origins.add(origin);
            put(v);
        }
    }

    private void vector(int op) {
        if (op == 59) {
            take("0702");
            put("0702");
            return;
        }
        String element = elements.get(a);
        String vector = "07" + element;
        if (op == 52) {
            for (int k = 0; k < b; k++) {
                take(element);
            }
            put(vector);
        } else if (op == 53) {
            takeReference(vector, false);
            put("03");
        } else if (op <= 55) {
            take("03");
            Value v = takeReference(vector, op == 55);
            put(new Value((op == 55 ? "09" : "08") + element, v, true));
        } else {
            if (op == 56) {
                take(element);
            }
            if (op == 58) {
                take("03");
                take("03");
            }
            needSole(takeReference(vector, true));
            if (op == 57) {
                put(element);
            }
        }
    }
}
