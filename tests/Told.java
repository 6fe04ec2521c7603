/** A new object that is told things in few words; whatever it is told here must be taken up. */
final class Told {
    final AbilityChecker x = new AbilityChecker();
    private int structures = 0;
    private int elements = 0;
    private int functions = 0;

    Told structure(int abilities, long... fields) {
        Due.due("structure(" + abilities + ")", x.structure(abilities), structures);
        structures++;
        for (int k = 0; k < fields.length; k++) {
            Due.due("field(" + fields[k] + ")", x.field(fields[k]), k + 1);
        }
        return this;
    }

    Told element(long type) {
        Due.due("element(" + type + ")", x.element(type), elements);
        elements++;
        return this;
    }

    Told function(int flags) {
        Due.due("function(" + flags + ")", x.function(flags), functions);
        functions++;
        return this;
    }

    Told takes(long... types) {
        return list(0, types);
    }

    Told gives(long... types) {
        return list(1, types);
    }

    Told locals(long... types) {
        return list(2, types);
    }

    private Told list(int what, long... types) {
        for (long type : types) {
            if (x.list(what, type) < 1) {
                Due.due("list(" + what + ", " + type + ")", -9, 1);
            }
        }
        return this;
    }

    /** Instructions between semicolons: an operation and its operands; "n*" before one for n of it. */
    Told does(String code) {
        for (String part : code.split(";")) {
            String one = part.trim();
            int times = 1;
            if (one.contains("*")) {
                times = Integer.parseInt(one.substring(0, one.indexOf('*')).trim());
                one = one.substring(one.indexOf('*') + 1).trim();
            }
            for (int k = 0; k < times && !one.isEmpty(); k++) {
                instruction(one.split(" +"));
            }
        }
        return this;
    }

    private void instruction(String[] words) {
        int a = words.length > 1 ? Integer.parseInt(words[1]) : 0;
        int b = words.length > 2 ? Integer.parseInt(words[2]) : 0;
        if (x.instruction(Integer.parseInt(words[0]), a, b) < 1) {
            Due.due("instruction(" + words[0] + ", " + a + ", " + b + ")", -9, 1);
        }
    }

    /** Looks at the latest function: taken. */
    Told isTaken(String what) {
        return looked(what, 0, -2);
    }

    /** Looks at the latest function: not taken. */
    Told fails(String what, int why, int place) {
        return looked(what, -why, place);
    }

    private Told looked(String what, int answer, int place) {
        Due.due(what + ": check", x.check(functions - 1), answer);
        Due.due(what + ": place", x.place(), place);
        return this;
    }
}
