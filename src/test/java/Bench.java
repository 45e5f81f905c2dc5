/** What the tests of single sentences share: names of operations, a machine, and ways to write and to look. */
abstract class Bench {
    static final int TRAP = 0;
    static final int NOTHING = 1;
    static final int BLOCK = 2;
    static final int LOOP = 3;
    static final int IF = 4;
    static final int ELSE = 5;
    static final int ENTRY = 6;
    static final int END = 11;
    static final int BRANCH = 12;
    static final int BRANCH_IF = 13;
    static final int TABLE = 14;
    static final int RETURN = 15;
    static final int CALL = 16;
    static final int CALL_ENTRY = 17;
    static final int FORGET = 26;
    static final int SELECT = 27;
    static final int GET = 32;
    static final int SET = 33;
    static final int TEE = 34;
    static final int GET_GLOBAL = 35;
    static final int SET_GLOBAL = 36;
    static final int LOAD = 40;
    static final int LOAD_BYTE = 45;
    static final int STORE = 54;
    static final int STORE_BYTE = 58;
    static final int PAGES = 63;
    static final int GROW = 64;
    static final int PUT = 65;
    static final int PUT_64 = 66;
    static final int IS_ZERO = 69;
    static final int ADD = 106;
    static final int SUBTRACT = 107;
    static final int DIVIDE = 110;

    static final int LEAST = Integer.MIN_VALUE;
    static final int GREATEST = Integer.MAX_VALUE;

    final Check check = new Check();
    RegisterMachine m = new RegisterMachine();
    private String prefix = "";

    final void fresh(int tier) {
        m = new RegisterMachine();
        m.tier(tier);
        prefix = "tier " + tier + ", ";
    }

    /** Begins a function; it has to be taken. */
    final int begin(int parameters, int results, int locals) {
        int number = m.function(parameters, results, locals);
        check.same("a function is begun", number >= 0, true);
        return number;
    }

    /** Writes instructions of three numbers each; all have to be taken. */
    final void write(String what, int... numbers) {
        for (int i = 0; i + 2 < numbers.length; i += 3) {
            int taken = m.code(numbers[i], numbers[i + 1], numbers[i + 2]);
            check.same(what + ": instruction " + i / 3 + " is taken", taken > 0, true);
        }
    }

    final void write(String what, int times, int op) {
        for (int i = 0; i < times; i++) {
            write(what, op, 0, 0);
        }
    }

    /** A function as it is to be; it has to be whole then. */
    final int whole(String what, int parameters, int results, int locals, int... numbers) {
        int number = begin(parameters, results, locals);
        write(what, numbers);
        check.same(what + " is whole", m.look(number, 0), parameters);
        return number;
    }

    /** The instruction is answered -1, and nothing that can be looked at is another then. */
    final void refuse(String what, int op, int a, int b) {
        long[] before = seen();
        check.same(what + " is refused", m.code(op, a, b), -1);
        unchanged(what, before);
    }

    final void unchanged(String what, long[] before) {
        long[] after = seen();
        for (int i = 0; i < before.length; i++) {
            check.same(what + " changes nothing (" + i + ")", after[i], before[i]);
        }
    }

    /** What can be looked at without a change: states, results, globals, the memory's ends, functions. */
    final long[] seen() {
        long[] all = new long[80];
        int n = 0;
        for (int what = 0; what <= 11; what++) {
            all[n++] = m.state(what);
        }
        for (int k = 0; k < 8; k++) {
            all[n++] = m.result(k);
            all[n++] = m.global(k);
        }
        for (int address : new int[] {0, 1, 63, 64, 127, 128, 383}) {
            all[n++] = m.memory(address);
        }
        int functions = m.state(5);
        for (int f = Math.max(0, functions - 3); f <= functions; f++) {
            for (int what = 0; what < 4; what++) {
                all[n++] = m.look(f, what);
            }
        }
        return all;
    }

    final void states(String what, int... due) {
        for (int i = 0; i + 1 < due.length; i += 2) {
            check.same(prefix + what + ": state(" + due[i] + ")", m.state(due[i]), due[i + 1]);
        }
    }

    final boolean callWith(int function, long... arguments) {
        for (long v : arguments) {
            m.argument(v);
        }
        return m.call(function);
    }

    /** Calls, runs to the end in so many steps, and has these results. */
    final void gives(String text, int function, long[] arguments, int steps, long... results) {
        String what = prefix + text;
        check.same(what + " is called", callWith(function, arguments), true);
        check.same(what + ": steps", m.run(2000), steps);
        states(text, 0, 2, 2, 0, 4, steps);
        for (int k = 0; k < results.length; k++) {
            check.same(what + ": result " + k, m.result(k), results[k]);
        }
        check.same(what + ": no more results", m.result(results.length), 0);
    }

    /** Calls, and TRAPS with the last of so many steps. */
    final void traps(String text, int function, long[] arguments, int steps, int trap) {
        String what = prefix + text;
        check.same(what + " is called", callWith(function, arguments), true);
        check.same(what + ": steps", m.run(2000), steps);
        states(text, 0, 3, 1, trap, 2, 0, 4, steps);
        check.same(what + ": no result", m.result(0), 0);
        check.same(what + ": it has stopped", m.run(1), 0);
    }

    static long[] with(long... arguments) {
        return arguments;
    }
}
