import java.util.Arrays;

/**
 * Two machines for structured code. Functions are checked while they are written; a function that was
 * counted often enough is compiled to code for registers, others are run with a stack.
 */
public final class RegisterMachine {
    private static final int NONE = -1;
    private static final long LOW_BITS = 0xFFFFFFFFL;

    private static final int MOST_FUNCTIONS = 40;
    private static final int MOST_INSTRUCTIONS = 1500;
    private static final int MOST_FRAMES = 30;
    private static final int MOST_VALUES = 220;
    private static final int MOST_STEPS = 2000;
    private static final int MOST_IN_FUNCTION = 8;
    private static final int MOST_IN_LABEL = 4;
    private static final int MOST_BRANCHES = 20;
    private static final int TABLE_ENTRIES = 30;
    private static final int GLOBALS = 8;
    private static final int PAGE_BYTES = 64;
    private static final int MOST_PAGES = 6;

    // One instruction gives at most two for registers: a branch on a condition is a test and a branch,
    // and what puts a local or a constant is at most one move, when its slot is needed.
    private static final int MOST_FOR_ONE = 2;
    private static final int MOST_REGISTER_INSTRUCTIONS = MOST_FOR_ONE * MOST_INSTRUCTIONS;
    private static final int MOST_LABELS = MOST_INSTRUCTIONS + 1;

    // Most programs are short, so rows for instructions begin short and get longer by doubling.
    private static final int FIRST_ROOM = 32;

    // What is done between two steps only goes forward in each frame, so this is far more than any needs.
    private static final int MOST_BETWEEN_STEPS = 1000000;

    private static final int TRAP = 0;
    private static final int NOTHING = 1;
    private static final int BLOCK = 2;
    private static final int LOOP = 3;
    private static final int IF = 4;
    private static final int ELSE = 5;
    private static final int ENTRY = 6;
    private static final int END = 11;
    private static final int BRANCH = 12;
    private static final int BRANCH_IF = 13;
    private static final int TABLE = 14;
    private static final int RETURN = 15;
    private static final int CALL = 16;
    private static final int CALL_ENTRY = 17;
    private static final int FORGET = 26;
    private static final int SELECT = 27;
    private static final int GET_LOCAL = 32;
    private static final int SET_LOCAL = 33;
    private static final int TEE_LOCAL = 34;
    private static final int GET_GLOBAL = 35;
    private static final int SET_GLOBAL = 36;
    private static final int FIRST_LOAD = 40;
    private static final int LAST_LOAD = 53;
    private static final int FIRST_STORE = 54;
    private static final int LAST_STORE = 62;
    private static final int PAGES = 63;
    private static final int GROW = 64;
    private static final int CONSTANT_32 = 65;
    private static final int CONSTANT_64 = 66;
    private static final int FIRST_OPERATOR = 69;
    private static final int DIVIDE = 110;

    // Only in code for registers: no operation that can be written has this number.
    private static final int MOVE = 200;

    private static final int NOT_CALLED = 0;
    private static final int GOES_ON = 1;
    private static final int ENDED = 2;
    private static final int TRAPPED = 3;
    private static final int EXHAUSTED = 4;

    private static final int TRAP_REACHED = 1;
    private static final int TRAP_MEMORY = 4;
    private static final int TRAP_NO_INDEX = 6;
    private static final int TRAP_NO_FUNCTION = 7;
    private static final int TRAP_OTHER_SHAPE = 8;
    private static final int TRAP_DIVISION = 11;

    private final Program program;
    private final Writer writer;
    private final World world;
    private final Activity activity;
    private final RegisterCode registerCode;
    private final Compiler compiler;
    private final StackRunner stackRunner;
    private final RegisterRunner registerRunner;
    private final long[] arguments;
    private int argumentCount;
    private int tier;

    public RegisterMachine() {
        program = new Program();
        writer = new Writer(program);
        world = new World();
        activity = new Activity(program);
        registerCode = new RegisterCode();
        compiler = new Compiler(program, registerCode);
        stackRunner = new StackRunner(program, world, activity);
        registerRunner = new RegisterRunner(program, registerCode, world, activity);
        arguments = new long[MOST_IN_FUNCTION];
        argumentCount = 0;
        tier = 2;
    }

    public int function(int parameters, int results, int locals) {
        return writer.start(parameters, results, locals);
    }

    public int code(int operation, int a, int b) {
        return writer.write(operation, a, b);
    }

    public boolean drop() {
        return writer.abandon();
    }

    public boolean entry(int k, int function) {
        if (k < 0 || k >= TABLE_ENTRIES || (function != NONE && !program.isWhole(function))) {
            return false;
        }
        world.table[k] = function;
        return true;
    }

    public int argument(long v) {
        if (argumentCount >= MOST_IN_FUNCTION) {
            return -1;
        }
        arguments[argumentCount] = v;
        argumentCount++;
        return argumentCount;
    }

    public boolean call(int function) {
        if (!program.isWhole(function) || program.parameters[function] != argumentCount) {
            return false;
        }
        argumentCount = 0;
        activity.restart(function, arguments);
        doWhatIsNoStep();
        return true;
    }

    public int run(int n) {
        if (n < 0 || n > MOST_STEPS) {
            return -1;
        }
        int done = 0;
        while (done < n && activity.state == GOES_ON) {
            activity.steps++;
            if (activity.isInRegisters()) {
                registerRunner.payStep();
            } else {
                stackRunner.perform();
            }
            doWhatIsNoStep();
            done++;
        }
        return done;
    }

    public int state(int what) {
        switch (what) {
            case 0: return activity.state;
            case 1: return activity.trap;
            case 2: return activity.state == GOES_ON ? activity.frames : 0;
            case 3: return activity.latest == NONE ? 0 : program.counted[activity.latest];
            case 4: return activity.steps;
            case 5: return program.functions;
            case 6: return program.size;
            case 7: return writer.labels;
            case 8: return writer.ownOperands();
            case 9: return writer.isDead() ? 1 : 0;
            case 10: return world.pages;
            case 11: return registerCode.functions;
            default: return -1;
        }
    }

    public int tier(int n) {
        if (n < 0) {
            return -1;
        }
        int before = tier;
        tier = n;
        return before;
    }

    public long result(int k) {
        return k >= 0 && k < activity.resultCount ? activity.results[k] : 0;
    }

    public long global(int k) {
        return k >= 0 && k < GLOBALS ? world.globals[k] : 0;
    }

    public int memory(int address) {
        return address >= 0 && world.holds(address, 1) ? world.bytes[address] & 0xFF : -1;
    }

    public int look(int function, int what) {
        if (!program.isWhole(function)) {
            return -1;
        }
        switch (what) {
            case 0: return program.parameters[function];
            case 1: return program.results[function];
            case 2: return program.locals[function];
            case 3: return program.most[function];
            default: return -1;
        }
    }

    private void doWhatIsNoStep() {
        boolean goes = true;
        for (int i = 0; i < MOST_BETWEEN_STEPS && goes && activity.state == GOES_ON; i++) {
            if (activity.isFresh) {
                int function = activity.currentFunction();
                if (isDueWhenCounted(function)) {
                    compiler.compile(function);
                }
                activity.settleFrame(registerCode.start[function]);
            }
            if (activity.isInRegisters()) {
                goes = registerRunner.performFree();
            } else {
                goes = stackRunner.performFree();
            }
        }
    }

    private boolean isDueWhenCounted(int function) {
        program.counted[function]++;
        return tier > 0 && program.counted[function] >= tier && registerCode.start[function] == NONE;
    }

    private static boolean isWithin(int number, int most) {
        return number >= 0 && number <= most;
    }

    /** What was written: the functions, their instructions, and where their labels begin and end. */
    private static final class Program {
        final int[] parameters = new int[MOST_FUNCTIONS];
        final int[] results = new int[MOST_FUNCTIONS];
        final int[] locals = new int[MOST_FUNCTIONS];
        final int[] most = new int[MOST_FUNCTIONS];
        final int[] first = new int[MOST_FUNCTIONS];
        final int[] last = new int[MOST_FUNCTIONS];
        final int[] counted = new int[MOST_FUNCTIONS];
        int[] operation = new int[FIRST_ROOM];
        int[] a = new int[FIRST_ROOM];
        int[] b = new int[FIRST_ROOM];
        // Of what begins a label and of ELSE: its END. Of END and of a branch: what began the label,
        // NONE for the function's own.
        int[] link = new int[FIRST_ROOM];
        // Of IF: its ELSE, or NONE. Of ELSE: its IF.
        int[] other = new int[FIRST_ROOM];
        int[] height = new int[FIRST_ROOM];
        int functions = 0;
        int written = NONE;
        int size = 0;

        /** Whether there is a place for one instruction more. */
        boolean makeRoom() {
            if (size >= operation.length && size < MOST_INSTRUCTIONS) {
                int length = Math.min(2 * operation.length, MOST_INSTRUCTIONS);
                operation = Arrays.copyOf(operation, length);
                a = Arrays.copyOf(a, length);
                b = Arrays.copyOf(b, length);
                link = Arrays.copyOf(link, length);
                other = Arrays.copyOf(other, length);
                height = Arrays.copyOf(height, length);
            }
            return size < operation.length;
        }

        boolean isWhole(int function) {
            return function >= 0 && function < functions && function != written;
        }

        int allLocals(int function) {
            return parameters[function] + locals[function];
        }

        int resultsOf(int begin, int function) {
            return begin == NONE ? results[function] : b[begin];
        }

        boolean isLoop(int begin) {
            return begin != NONE && operation[begin] == LOOP;
        }

        int wantedBy(int begin, int function) {
            if (begin == NONE) {
                return results[function];
            }
            return operation[begin] == LOOP ? a[begin] : b[begin];
        }

        long constant(int at) {
            long low = a[at] & LOW_BITS;
            return operation[at] == CONSTANT_64 ? ((long) b[at] << 32) | low : low;
        }
    }

    /** Takes a function's instructions one by one and refuses what has not its operands. */
    private static final class Writer {
        private final Program program;
        private int[] begins = new int[FIRST_ROOM];
        private boolean[] dead = new boolean[FIRST_ROOM];
        int labels = 0;
        private int operands = 0;
        private int entriesLeft = 0;
        private int entriesWant = NONE;

        Writer(Program program) {
            this.program = program;
        }

        int start(int parameters, int results, int locals) {
            int number = program.functions;
            if (program.written != NONE || number >= MOST_FUNCTIONS || !isWithin(parameters, MOST_IN_FUNCTION)
                    || !isWithin(results, MOST_IN_FUNCTION) || !isWithin(locals, MOST_IN_FUNCTION)) {
                return -1;
            }
            program.parameters[number] = parameters;
            program.results[number] = results;
            program.locals[number] = locals;
            program.most[number] = 0;
            program.counted[number] = 0;
            program.first[number] = program.size;
            program.functions = number + 1;
            program.written = number;
            begins[0] = NONE;
            dead[0] = false;
            labels = 1;
            operands = 0;
            entriesLeft = 0;
            return number;
        }

        boolean abandon() {
            if (program.written == NONE) {
                return false;
            }
            program.size = program.first[program.written];
            program.functions = program.written;
            stop();
            return true;
        }

        int write(int operation, int a, int b) {
            int at = program.size;
            if (program.written == NONE || !program.makeRoom() || !admits(operation, a, b)) {
                return -1;
            }
            program.operation[at] = operation;
            program.a[at] = a;
            program.b[at] = b;
            program.size = at + 1;
            return program.size;
        }

        int ownOperands() {
            return labels == 0 ? 0 : operands - height();
        }

        boolean isDead() {
            return labels > 0 && dead[labels - 1];
        }

        private void stop() {
            program.written = NONE;
            labels = 0;
            operands = 0;
            entriesLeft = 0;
        }

        private boolean admits(int operation, int a, int b) {
            if (entriesLeft > 0 || operation == ENTRY) {
                return entriesLeft > 0 && operation == ENTRY && admitsTableEntry(a);
            }
            switch (operation) {
                case TRAP: die(); return true;
                case BLOCK: case LOOP: return admitsBegin(a, b, 0);
                case IF: return admitsBegin(a, b, 1);
                case ELSE: return admitsElse();
                case END: return admitsEnd();
                case BRANCH: return admitsBranch(a);
                case BRANCH_IF: return admitsBranchIf(a);
                case TABLE: return admitsTable(a);
                case RETURN: return admitsReturn();
                case CALL: return a >= 0 && a < program.functions
                        && exchanges(program.parameters[a], program.results[a]);
                case CALL_ENTRY: return isWithin(a, MOST_IN_FUNCTION) && isWithin(b, MOST_IN_FUNCTION)
                        && exchanges(a + 1, b);
                default: return admitsPlain(operation, a);
            }
        }

        private boolean admitsBegin(int parameters, int results, int more) {
            if (!isWithin(parameters, MOST_IN_LABEL) || !isWithin(results, MOST_IN_LABEL)
                    || !has(parameters + more) || !makeRoom()) {
                return false;
            }
            int at = program.size;
            take(parameters + more);
            program.height[at] = operands;
            program.link[at] = NONE;
            program.other[at] = NONE;
            begins[labels] = at;
            dead[labels] = false;
            labels++;
            put(parameters);
            return true;
        }

        /** Whether there is a place for one label more. */
        private boolean makeRoom() {
            int length = begins.length;
            if (labels >= length && labels < MOST_LABELS) {
                int longer = Math.min(2 * length, MOST_LABELS);
                boolean[] shorter = dead;
                begins = Arrays.copyOf(begins, longer);
                dead = new boolean[longer];
                for (int i = 0; i < length; i++) {
                    dead[i] = shorter[i];
                }
            }
            return labels < begins.length;
        }

        private boolean admitsElse() {
            int begin = begins[labels - 1];
            if (!isIfWithoutElse(begin) || !isReadyToEnd()) {
                return false;
            }
            int at = program.size;
            program.other[begin] = at;
            program.other[at] = begin;
            program.link[at] = NONE;
            operands = program.height[begin];
            dead[labels - 1] = false;
            put(program.a[begin]);
            return true;
        }

        private boolean admitsEnd() {
            int begin = begins[labels - 1];
            boolean lacksElse = isIfWithoutElse(begin) && program.a[begin] != program.b[begin];
            if (lacksElse || !isReadyToEnd()) {
                return false;
            }
            int at = program.size;
            program.link[at] = begin;
            if (begin == NONE) {
                // No label is left to have the results: what a dead one only asked for was never an operand.
                program.last[program.written] = at;
                stop();
                return true;
            }
            program.link[begin] = at;
            if (program.other[begin] != NONE) {
                program.link[program.other[begin]] = at;
            }
            operands = height();
            labels--;
            put(program.b[begin]);
            return true;
        }

        private boolean admitsBranch(int label) {
            if (!isWithin(label, labels - 1) || !has(wantedBy(label))) {
                return false;
            }
            program.link[program.size] = begins[labels - 1 - label];
            die();
            return true;
        }

        private boolean admitsBranchIf(int label) {
            if (!isWithin(label, labels - 1) || !exchanges(wantedBy(label) + 1, wantedBy(label))) {
                return false;
            }
            program.link[program.size] = begins[labels - 1 - label];
            return true;
        }

        private boolean admitsTable(int branches) {
            if (!isWithin(branches, MOST_BRANCHES) || !exchanges(1, 0)) {
                return false;
            }
            entriesLeft = branches + 1;
            entriesWant = NONE;
            return true;
        }

        private boolean admitsTableEntry(int label) {
            if (!isWithin(label, labels - 1)) {
                return false;
            }
            int wanted = wantedBy(label);
            if (!has(wanted) || (entriesWant != NONE && entriesWant != wanted)) {
                return false;
            }
            program.link[program.size] = begins[labels - 1 - label];
            entriesWant = wanted;
            entriesLeft--;
            if (entriesLeft == 0) {
                die();
            }
            return true;
        }

        private boolean admitsReturn() {
            if (!has(program.results[program.written])) {
                return false;
            }
            die();
            return true;
        }

        private boolean admitsPlain(int operation, int a) {
            boolean isLocal = operation >= GET_LOCAL && operation <= TEE_LOCAL;
            boolean isGlobal = operation == GET_GLOBAL || operation == SET_GLOBAL;
            if (isLocal && !isWithin(a, program.allLocals(program.written) - 1)) {
                return false;
            }
            if (isGlobal && !isWithin(a, GLOBALS - 1)) {
                return false;
            }
            int takes = Operations.takes(operation);
            return takes != NONE && exchanges(takes, Operations.puts(operation));
        }

        private boolean isIfWithoutElse(int begin) {
            return begin != NONE && program.operation[begin] == IF && program.other[begin] == NONE;
        }

        private boolean isReadyToEnd() {
            int results = program.resultsOf(begins[labels - 1], program.written);
            int own = operands - height();
            return dead[labels - 1] ? own <= results : own == results;
        }

        private int wantedBy(int label) {
            return program.wantedBy(begins[labels - 1 - label], program.written);
        }

        private int height() {
            int begin = begins[labels - 1];
            return begin == NONE ? 0 : program.height[begin];
        }

        private boolean has(int count) {
            return dead[labels - 1] || operands - height() >= count;
        }

        private boolean exchanges(int takes, int puts) {
            if (!has(takes)) {
                return false;
            }
            take(takes);
            put(puts);
            return true;
        }

        private void take(int count) {
            operands = Math.max(height(), operands - count);
        }

        private void put(int count) {
            operands += count;
            program.most[program.written] = Math.max(program.most[program.written], operands);
        }

        private void die() {
            operands = height();
            dead[labels - 1] = true;
        }
    }

    /** How many operands an operation takes and puts, and what the operators give. */
    private static final class Operations {
        static int takes(int operation) {
            if (operation >= FIRST_OPERATOR) {
                return operatorTakes(operation);
            }
            if (operation >= FIRST_LOAD && operation <= LAST_LOAD) {
                return 1;
            }
            if (operation >= FIRST_STORE && operation <= LAST_STORE) {
                return 2;
            }
            switch (operation) {
                case NOTHING: case GET_LOCAL: case GET_GLOBAL: case PAGES: case CONSTANT_32: case CONSTANT_64:
                    return 0;
                case FORGET: case SET_LOCAL: case TEE_LOCAL: case SET_GLOBAL: case GROW:
                    return 1;
                case SELECT:
                    return 3;
                default:
                    return NONE;
            }
        }

        static int operatorTakes(int operation) {
            switch (operation) {
                case 69: case 80: case 167: case 173:
                    return 1;
                case 70: case 71: case 72: case 73: case 81: case 83: case 106: case 107: case 108:
                case DIVIDE: case 113: case 116: case 124: case 125: case 126:
                    return 2;
                default:
                    return NONE;
            }
        }

        static int puts(int operation) {
            boolean isStore = operation >= FIRST_STORE && operation <= LAST_STORE;
            boolean onlyTakes = operation == FORGET || operation == SET_LOCAL || operation == SET_GLOBAL;
            return isStore || onlyTakes || operation == NOTHING ? 0 : 1;
        }

        static boolean dividesByZero(int operation, long y) {
            return operation == DIVIDE && (int) y == 0;
        }

        static long compute(int operation, long x, long y) {
            switch (operation) {
                case 69: return bit((int) x == 0);
                case 70: return bit((int) x == (int) y);
                case 71: return bit((int) x != (int) y);
                case 72: return bit((int) x < (int) y);
                case 73: return bit((x & LOW_BITS) < (y & LOW_BITS));
                case 80: return bit(x == 0);
                case 81: return bit(x == y);
                case 83: return bit(x < y);
                case 106: return (x + y) & LOW_BITS;
                case 107: return (x - y) & LOW_BITS;
                case 108: return (x * y) & LOW_BITS;
                case DIVIDE: return (int) y == 0 ? 0 : (x & LOW_BITS) / (y & LOW_BITS);
                case 113: return x & y & LOW_BITS;
                case 116: return ((int) x << ((int) y & 31)) & LOW_BITS;
                case 124: return x + y;
                case 125: return x - y;
                case 126: return x * y;
                case 167: case 173: return x & LOW_BITS;
                default: return 0;
            }
        }

        private static long bit(boolean holds) {
            return holds ? 1 : 0;
        }
    }

    /** What outlives a call: the table, the globals and the memory. */
    private static final class World {
        final int[] table = new int[TABLE_ENTRIES];
        final long[] globals = new long[GLOBALS];
        final byte[] bytes = new byte[MOST_PAGES * PAGE_BYTES];
        int pages = 1;

        World() {
            Arrays.fill(table, NONE);
        }

        boolean holds(long address, int count) {
            return address + count <= (long) pages * PAGE_BYTES;
        }

        /** The function that the table has for a call of this shape, or the TRAP below 0. */
        int find(long value, int parameters, int results, Program program) {
            long index = value & LOW_BITS;
            if (index >= TABLE_ENTRIES) {
                return -TRAP_NO_INDEX;
            }
            int function = table[(int) index];
            if (!program.isWhole(function)) {
                return -TRAP_NO_FUNCTION;
            }
            boolean fits = program.parameters[function] == parameters && program.results[function] == results;
            return fits ? function : -TRAP_OTHER_SHAPE;
        }

        long grow(long value) {
            long more = value & LOW_BITS;
            int before = pages;
            if (more > MOST_PAGES - before) {
                return LOW_BITS;
            }
            pages = before + (int) more;
            return before;
        }

        static long place(long address, int offset) {
            return (address & LOW_BITS) + (offset & LOW_BITS);
        }

        static int width(int operation) {
            switch (operation) {
                case 44: case 45: case 48: case 49: case 58: case 60: return 1;
                case 46: case 47: case 50: case 51: case 59: case 61: return 2;
                case 41: case 43: case 55: case 57: return 8;
                default: return 4;
            }
        }

        /** Only for a place that holds() has allowed. */
        long load(int operation, int place) {
            long value = 0;
            for (int i = width(operation) - 1; i >= 0; i--) {
                value = (value << 8) | (bytes[place + i] & 0xFF);
            }
            switch (operation) {
                case 44: return (byte) value & LOW_BITS;
                case 46: return (short) value & LOW_BITS;
                case 48: return (byte) value;
                case 50: return (short) value;
                case 52: return (int) value;
                default: return value;
            }
        }

        /** Only for a place that holds() has allowed. */
        void store(int operation, int place, long value) {
            for (int i = 0; i < width(operation); i++) {
                bytes[place + i] = (byte) (value >>> (8 * i));
            }
        }
    }

    /** The latest call: its frames, their values, and how it stands. */
    private static final class Activity {
        private final Program program;
        final int[] function = new int[MOST_FRAMES];
        final int[] next = new int[MOST_FRAMES];
        final int[] base = new int[MOST_FRAMES];
        // Above the operands; while a frame waits for another: where the results are to be put.
        final int[] top = new int[MOST_FRAMES];
        private final boolean[] inRegisters = new boolean[MOST_FRAMES];
        final long[] values = new long[MOST_VALUES];
        final long[] results = new long[MOST_IN_FUNCTION];
        int resultCount = 0;
        int state = NOT_CALLED;
        int trap = 0;
        int steps = 0;
        int frames = 0;
        int latest = NONE;
        boolean isFresh = false;
        // Steps that were done of an instruction for registers that stands for several of them.
        int paid = 0;
        private int used = 0;

        Activity(Program program) {
            this.program = program;
        }

        void restart(int called, long[] arguments) {
            latest = called;
            state = GOES_ON;
            steps = 0;
            frames = 0;
            used = 0;
            paid = 0;
            resultCount = 0;
            isFresh = false;
            enter(called, arguments, 0);
        }

        /** Makes a frame; its parameters begin at a place of the source, which is the values but for the first. */
        void enter(int called, long[] source, int from) {
            int locals = program.allLocals(called);
            int parameters = program.parameters[called];
            int asked = locals + program.most[called];
            if (frames >= MOST_FRAMES || asked > MOST_VALUES - used) {
                state = EXHAUSTED;
                return;
            }
            if (frames > 0) {
                top[frames - 1] = from;
            }
            for (int i = 0; i < locals; i++) {
                boolean isGiven = i < parameters && from + i >= 0 && from + i < source.length;
                values[used + i] = isGiven ? source[from + i] : 0;
            }
            function[frames] = called;
            next[frames] = program.first[called];
            base[frames] = used;
            top[frames] = used + locals;
            inRegisters[frames] = false;
            frames++;
            used += asked;
            isFresh = true;
        }

        /** The current frame is over; its results begin at a place among the values. */
        void leave(int from) {
            if (frames <= 0) {
                return;
            }
            frames--;
            used = base[frames];
            int count = program.results[function[frames]];
            if (frames == 0) {
                for (int i = 0; i < count; i++) {
                    results[i] = value(from + i);
                }
                resultCount = count;
                state = ENDED;
                return;
            }
            move(from, top[frames - 1], count);
            top[frames - 1] += count;
        }

        void fail(int reason) {
            trap = reason;
            state = TRAPPED;
        }

        int currentFunction() {
            return frames > 0 ? function[frames - 1] : 0;
        }

        /** Where the current frame goes on in code of a size; NONE when there is no such place. */
        int nextWithin(int size) {
            return frames > 0 && next[frames - 1] >= 0 && next[frames - 1] < size ? next[frames - 1] : NONE;
        }

        boolean isInRegisters() {
            return frames > 0 && inRegisters[frames - 1];
        }

        /** The new frame runs code for registers from its start on, if there is any. */
        void settleFrame(int start) {
            isFresh = false;
            if (frames > 0 && start != NONE) {
                inRegisters[frames - 1] = true;
                next[frames - 1] = start;
            }
        }

        long value(int at) {
            return at >= 0 && at < MOST_VALUES ? values[at] : 0;
        }

        void setValue(int at, long value) {
            if (at >= 0 && at < MOST_VALUES) {
                values[at] = value;
            }
        }

        /** Downwards only, so that going upwards over them never reads what was written. */
        void move(int from, int to, int count) {
            if (to < 0 || from < to || from + count > MOST_VALUES) {
                return;
            }
            for (int i = 0; i < count; i++) {
                values[to + i] = values[from + i];
            }
        }
    }

    /** Runs the current frame as it was written, with operands above its locals. */
    private static final class StackRunner {
        private final Program program;
        private final World world;
        private final Activity activity;

        StackRunner(Program program, World world, Activity activity) {
            this.program = program;
            this.world = world;
            this.activity = activity;
        }

        boolean performFree() {
            int at = activity.nextWithin(program.size);
            if (at == NONE) {
                return false;
            }
            int frame = activity.frames - 1;
            switch (program.operation[at]) {
                case BLOCK: case LOOP:
                    activity.next[frame] = at + 1;
                    return true;
                case ELSE:
                    activity.next[frame] = program.link[at] + 1;
                    return true;
                case END:
                    activity.next[frame] = at + 1;
                    if (program.link[at] == NONE) {
                        giveBack(frame);
                    }
                    return true;
                default:
                    return false;
            }
        }

        void perform() {
            int at = activity.nextWithin(program.size);
            if (at == NONE) {
                return;
            }
            int frame = activity.frames - 1;
            int operation = program.operation[at];
            activity.next[frame] = at + 1;
            if (operation >= FIRST_OPERATOR) {
                operate(frame, operation);
            } else if (operation >= CONSTANT_32) {
                push(frame, program.constant(at));
            } else if (operation >= FIRST_LOAD) {
                useMemory(frame, operation, program.a[at]);
            } else if (operation >= FORGET) {
                useVariable(frame, operation, program.a[at]);
            } else {
                control(frame, operation, at);
            }
        }

        private void operate(int frame, int operation) {
            long y = Operations.operatorTakes(operation) == 2 ? pop(frame) : 0;
            long x = pop(frame);
            if (Operations.dividesByZero(operation, y)) {
                activity.fail(TRAP_DIVISION);
                return;
            }
            push(frame, Operations.compute(operation, x, y));
        }

        private void useMemory(int frame, int operation, int offset) {
            if (operation == PAGES) {
                push(frame, world.pages);
                return;
            }
            if (operation == GROW) {
                push(frame, world.grow(pop(frame)));
                return;
            }
            long value = operation >= FIRST_STORE ? pop(frame) : 0;
            long place = World.place(pop(frame), offset);
            if (!world.holds(place, World.width(operation))) {
                activity.fail(TRAP_MEMORY);
            } else if (operation >= FIRST_STORE) {
                world.store(operation, (int) place, value);
            } else {
                push(frame, world.load(operation, (int) place));
            }
        }

        private void useVariable(int frame, int operation, int a) {
            int local = activity.base[frame] + a;
            switch (operation) {
                case FORGET: pop(frame); break;
                case SELECT: select(frame); break;
                case GET_LOCAL: push(frame, activity.value(local)); break;
                case SET_LOCAL: activity.setValue(local, pop(frame)); break;
                case TEE_LOCAL: activity.setValue(local, activity.value(activity.top[frame] - 1)); break;
                case GET_GLOBAL: push(frame, world.globals[a]); break;
                case SET_GLOBAL: world.globals[a] = pop(frame); break;
                default: break;
            }
        }

        private void select(int frame) {
            boolean takesFirst = (int) pop(frame) != 0;
            long y = pop(frame);
            long x = pop(frame);
            push(frame, takesFirst ? x : y);
        }

        private void control(int frame, int operation, int at) {
            switch (operation) {
                case TRAP: activity.fail(TRAP_REACHED); break;
                case IF: beginIf(frame, at); break;
                case BRANCH: branch(frame, at); break;
                case BRANCH_IF: if ((int) pop(frame) != 0) { branch(frame, at); } break;
                case TABLE: branch(frame, at + 1 + (int) Math.min(pop(frame) & LOW_BITS, program.a[at])); break;
                case RETURN: giveBack(frame); break;
                case CALL: invoke(frame, program.a[at]); break;
                case CALL_ENTRY: invokeEntry(frame, at); break;
                default: break;
            }
        }

        private void beginIf(int frame, int at) {
            if ((int) pop(frame) == 0) {
                int otherwise = program.other[at];
                activity.next[frame] = (otherwise == NONE ? program.link[at] : otherwise) + 1;
            }
        }

        private void branch(int frame, int at) {
            int begin = program.link[at];
            if (begin == NONE) {
                giveBack(frame);
                return;
            }
            int function = activity.function[frame];
            int wanted = program.wantedBy(begin, function);
            int floor = activity.base[frame] + program.allLocals(function) + program.height[begin];
            activity.move(activity.top[frame] - wanted, floor, wanted);
            activity.top[frame] = floor + wanted;
            activity.next[frame] = (program.isLoop(begin) ? begin : program.link[begin]) + 1;
        }

        private void giveBack(int frame) {
            activity.leave(activity.top[frame] - program.results[activity.function[frame]]);
        }

        private void invoke(int frame, int called) {
            activity.enter(called, activity.values, activity.top[frame] - program.parameters[called]);
        }

        private void invokeEntry(int frame, int at) {
            int found = world.find(pop(frame), program.a[at], program.b[at], program);
            if (found < 0) {
                activity.fail(-found);
            } else {
                invoke(frame, found);
            }
        }

        private void push(int frame, long value) {
            activity.setValue(activity.top[frame], value);
            activity.top[frame]++;
        }

        private long pop(int frame) {
            activity.top[frame]--;
            return activity.value(activity.top[frame]);
        }
    }

    /**
     * Instructions for registers: the locals of a frame and then a slot for each operand. An operand of an
     * instruction below 0 is the constant that the written instruction of the number ~operand puts.
     */
    private static final class RegisterCode {
        final int[] start = new int[MOST_FUNCTIONS];
        int[] operation = new int[MOST_FOR_ONE * FIRST_ROOM];
        // How many steps of the written code it stands for; 0: it is done with what is ahead of it.
        int[] weight = new int[MOST_FOR_ONE * FIRST_ROOM];
        int[] to = new int[MOST_FOR_ONE * FIRST_ROOM];
        int[] x = new int[MOST_FOR_ONE * FIRST_ROOM];
        int[] y = new int[MOST_FOR_ONE * FIRST_ROOM];
        int[] z = new int[MOST_FOR_ONE * FIRST_ROOM];
        int size = 0;
        int functions = 0;

        RegisterCode() {
            Arrays.fill(start, NONE);
        }

        /** Room for all that so many written instructions may give. */
        void makeRoom(int instructions) {
            int needed = size + MOST_FOR_ONE * instructions;
            if (needed > operation.length) {
                int length = Math.min(Math.max(needed, 2 * operation.length), MOST_REGISTER_INSTRUCTIONS);
                operation = Arrays.copyOf(operation, length);
                weight = Arrays.copyOf(weight, length);
                to = Arrays.copyOf(to, length);
                x = Arrays.copyOf(x, length);
                y = Arrays.copyOf(y, length);
                z = Arrays.copyOf(z, length);
            }
        }
    }

    /**
     * Makes code for registers. Locals and constants that are put stay where they are until their slot is
     * needed; the steps of what gave no instruction are told by the weight of the next one.
     */
    private static final class Compiler {
        private final Program program;
        private final RegisterCode code;
        // Where each operand is: a local, its own slot, or (below 0) a constant.
        private final int[] where = new int[MOST_VALUES];
        // Behind which LOOP, ELSE or END which instruction for registers comes.
        private int[] places = new int[FIRST_ROOM];
        private int function = 0;
        private int slots = 0;
        private int operands = 0;
        private int pending = 0;
        private boolean isLive = true;
        private int deadLabels = 0;

        Compiler(Program program, RegisterCode code) {
            this.program = program;
            this.code = code;
        }

        void compile(int compiled) {
            int start = code.size;
            function = compiled;
            slots = program.allLocals(compiled);
            operands = 0;
            pending = 0;
            isLive = true;
            deadLabels = 0;
            makeRoom();
            for (int at = program.first[compiled]; at <= program.last[compiled]; at++) {
                translate(at);
            }
            for (int i = start; i < code.size; i++) {
                if (code.operation[i] == BRANCH || code.operation[i] == IF) {
                    code.z[i] = places[code.z[i]];
                }
            }
            code.start[compiled] = start;
            code.functions++;
        }

        private void makeRoom() {
            code.makeRoom(program.last[function] - program.first[function] + 1);
            if (places.length < program.operation.length) {
                places = new int[program.operation.length];
            }
        }

        private void translate(int at) {
            int operation = program.operation[at];
            if (operation >= BLOCK && operation <= END) {
                structure(operation, at);
                return;
            }
            if (!isLive) {
                return;
            }
            pending++;
            if (operation >= FIRST_OPERATOR) {
                operate(operation);
            } else if (operation >= CONSTANT_32) {
                push(~at);
            } else if (operation >= FIRST_LOAD) {
                useMemory(operation, program.a[at]);
            } else if (operation >= FORGET) {
                useVariable(operation, program.a[at]);
            } else {
                control(operation, at);
            }
        }

        private void structure(int operation, int at) {
            switch (operation) {
                case BLOCK: case LOOP: case IF: begin(operation, at); break;
                case ELSE: turn(at); break;
                case END: end(at); break;
                default: break;
            }
        }

        // Each way to a label's end finds the operands below it in their slots, so they go there first.
        private void begin(int operation, int at) {
            if (!isLive) {
                deadLabels++;
                return;
            }
            if (operation == IF) {
                pending++;
                int condition = pop();
                fillSlots(0);
                emit(IF, 0, condition, 0, program.other[at] == NONE ? program.link[at] : program.other[at]);
                return;
            }
            fillSlots(0);
            if (operation == LOOP) {
                emitPending();
                places[at] = code.size;
            }
        }

        private void turn(int at) {
            if (deadLabels > 0) {
                return;
            }
            int begin = program.other[at];
            if (isLive) {
                fillSlots(0);
                emit(BRANCH, 0, 0, 0, program.link[at]);
            }
            comeToLife(at, program.height[begin] + program.a[begin]);
        }

        private void end(int at) {
            if (deadLabels > 0) {
                deadLabels--;
                return;
            }
            int begin = program.link[at];
            if (isLive) {
                fillSlots(0);
                if (begin == NONE) {
                    emit(RETURN, 0, slots, 0, 0);
                    return;
                }
                emitPending();
            }
            if (begin != NONE) {
                comeToLife(at, program.height[begin] + program.b[begin]);
            }
        }

        private void comeToLife(int at, int count) {
            places[at] = code.size;
            isLive = true;
            operands = 0;
            putSlots(count);
        }

        private void operate(int operation) {
            int y = Operations.operatorTakes(operation) == 2 ? pop() : 0;
            int x = pop();
            emit(operation, slots + operands, x, y, 0);
            putSlots(1);
        }

        private void useMemory(int operation, int offset) {
            if (operation >= FIRST_STORE && operation <= LAST_STORE) {
                int value = pop();
                int address = pop();
                emit(operation, 0, address, value, offset);
                return;
            }
            int x = operation == PAGES ? 0 : pop();
            emit(operation, slots + operands, x, 0, offset);
            putSlots(1);
        }

        private void useVariable(int operation, int a) {
            switch (operation) {
                case FORGET:
                    pop();
                    break;
                case SELECT:
                    select();
                    break;
                case GET_LOCAL:
                    push(a);
                    break;
                case SET_LOCAL:
                    setLocal(a, pop());
                    break;
                case TEE_LOCAL:
                    int kept = pop();
                    setLocal(a, kept);
                    push(kept);
                    break;
                case GET_GLOBAL:
                    emit(operation, slots + operands, 0, 0, a);
                    putSlots(1);
                    break;
                case SET_GLOBAL:
                    emit(operation, 0, pop(), 0, a);
                    break;
                default:
                    break;
            }
        }

        private void select() {
            int condition = pop();
            int y = pop();
            int x = pop();
            emit(SELECT, slots + operands, x, y, condition);
            putSlots(1);
        }

        // Operands that still stand for the local keep what it was.
        private void setLocal(int local, int from) {
            if (from == local) {
                return;
            }
            for (int i = 0; i < operands; i++) {
                if (where[i] == local) {
                    emit(MOVE, slots + i, local, 0, 0);
                    where[i] = slots + i;
                }
            }
            emit(MOVE, local, from, 0, 0);
        }

        private void control(int operation, int at) {
            switch (operation) {
                case TRAP:
                    emit(TRAP, 0, 0, 0, 0);
                    isLive = false;
                    break;
                case BRANCH:
                    fillSlots(operands - program.wantedBy(program.link[at], function));
                    emitBranch(at);
                    isLive = false;
                    break;
                case BRANCH_IF:
                    branchIf(at);
                    break;
                case TABLE:
                    table(at);
                    break;
                case RETURN:
                    fillSlots(operands - program.results[function]);
                    emit(RETURN, 0, slots + operands - program.results[function], 0, 0);
                    isLive = false;
                    break;
                case CALL:
                    fillSlots(operands - program.parameters[program.a[at]]);
                    operands -= program.parameters[program.a[at]];
                    emit(CALL, 0, slots + operands, program.a[at], 0);
                    putSlots(program.results[program.a[at]]);
                    break;
                case CALL_ENTRY:
                    callEntry(program.a[at], program.b[at]);
                    break;
                default:
                    break;
            }
        }

        private void branchIf(int at) {
            int condition = pop();
            fillSlots(operands - program.wantedBy(program.link[at], function));
            emit(BRANCH_IF, 0, condition, 0, 0);
            emitBranch(at);
        }

        private void table(int at) {
            int index = pop();
            fillSlots(operands - program.wantedBy(program.link[at + 1], function));
            emit(TABLE, 0, index, program.a[at], 0);
            for (int i = 0; i <= program.a[at]; i++) {
                emitBranch(at + 1 + i);
            }
            isLive = false;
        }

        private void callEntry(int parameters, int results) {
            int index = pop();
            fillSlots(operands - parameters);
            operands -= parameters;
            emit(CALL_ENTRY, parameters, slots + operands, index, results);
            putSlots(results);
        }

        private void emitBranch(int at) {
            int begin = program.link[at];
            int wanted = program.wantedBy(begin, function);
            int from = slots + operands - wanted;
            if (begin == NONE) {
                emit(RETURN, 0, from, 0, 0);
            } else {
                int target = program.isLoop(begin) ? begin : program.link[begin];
                emit(BRANCH, slots + program.height[begin], from, wanted, target);
            }
        }

        // What is jumped to must not bear the steps of what comes before it.
        private void emitPending() {
            if (pending > 0) {
                emit(NOTHING, 0, 0, 0, 0);
            }
        }

        private void emit(int operation, int to, int x, int y, int z) {
            int at = code.size;
            if (at >= code.operation.length) {
                return;
            }
            code.operation[at] = operation;
            code.weight[at] = pending;
            code.to[at] = to;
            code.x[at] = x;
            code.y[at] = y;
            code.z[at] = z;
            code.size = at + 1;
            pending = 0;
        }

        private void fillSlots(int from) {
            for (int i = Math.max(from, 0); i < operands; i++) {
                if (where[i] != slots + i) {
                    emit(MOVE, slots + i, where[i], 0, 0);
                    where[i] = slots + i;
                }
            }
        }

        private void push(int place) {
            if (operands < MOST_VALUES) {
                where[operands] = place;
                operands++;
            }
        }

        private void putSlots(int count) {
            for (int i = 0; i < count && operands < MOST_VALUES; i++) {
                where[operands] = slots + operands;
                operands++;
            }
        }

        private int pop() {
            if (operands <= 0) {
                return 0;
            }
            operands--;
            return where[operands];
        }
    }

    /** Runs the current frame's code for registers. */
    private static final class RegisterRunner {
        private final Program program;
        private final RegisterCode code;
        private final World world;
        private final Activity activity;

        RegisterRunner(Program program, RegisterCode code, World world, Activity activity) {
            this.program = program;
            this.code = code;
            this.world = world;
            this.activity = activity;
        }

        void payStep() {
            int at = activity.nextWithin(code.size);
            if (at == NONE) {
                return;
            }
            activity.paid++;
            if (activity.paid >= code.weight[at]) {
                activity.paid = 0;
                perform(at);
            }
        }

        boolean performFree() {
            int at = activity.nextWithin(code.size);
            boolean isFree = at != NONE && code.weight[at] == 0;
            if (isFree) {
                perform(at);
            }
            return isFree;
        }

        private void perform(int at) {
            int frame = activity.frames - 1;
            int operation = code.operation[at];
            activity.next[frame] = at + 1;
            if (operation == MOVE) {
                setRegister(frame, code.to[at], read(frame, code.x[at]));
            } else if (operation >= FIRST_OPERATOR) {
                operate(frame, operation, at);
            } else if (operation >= FIRST_LOAD) {
                useMemory(frame, operation, at);
            } else if (operation >= FORGET) {
                useVariable(frame, operation, at);
            } else {
                control(frame, operation, at);
            }
        }

        private void operate(int frame, int operation, int at) {
            long x = read(frame, code.x[at]);
            long y = read(frame, code.y[at]);
            if (Operations.dividesByZero(operation, y)) {
                activity.fail(TRAP_DIVISION);
                return;
            }
            setRegister(frame, code.to[at], Operations.compute(operation, x, y));
        }

        private void useMemory(int frame, int operation, int at) {
            if (operation == PAGES) {
                setRegister(frame, code.to[at], world.pages);
                return;
            }
            long x = read(frame, code.x[at]);
            if (operation == GROW) {
                setRegister(frame, code.to[at], world.grow(x));
                return;
            }
            long place = World.place(x, code.z[at]);
            if (!world.holds(place, World.width(operation))) {
                activity.fail(TRAP_MEMORY);
            } else if (operation >= FIRST_STORE) {
                world.store(operation, (int) place, read(frame, code.y[at]));
            } else {
                setRegister(frame, code.to[at], world.load(operation, (int) place));
            }
        }

        private void useVariable(int frame, int operation, int at) {
            switch (operation) {
                case SELECT:
                    int chosen = (int) read(frame, code.z[at]) != 0 ? code.x[at] : code.y[at];
                    setRegister(frame, code.to[at], read(frame, chosen));
                    break;
                case GET_GLOBAL:
                    setRegister(frame, code.to[at], world.globals[code.z[at]]);
                    break;
                case SET_GLOBAL:
                    world.globals[code.z[at]] = read(frame, code.x[at]);
                    break;
                default:
                    break;
            }
        }

        private void control(int frame, int operation, int at) {
            switch (operation) {
                case TRAP: activity.fail(TRAP_REACHED); break;
                case IF: if (isZero(frame, at)) { activity.next[frame] = code.z[at]; } break;
                case BRANCH: branch(frame, at); break;
                case BRANCH_IF: if (isZero(frame, at)) { activity.next[frame] = at + 2; } break;
                case TABLE: activity.next[frame] = tableEntry(frame, at); break;
                case RETURN: activity.leave(activity.base[frame] + code.x[at]); break;
                case CALL: activity.enter(code.y[at], activity.values, activity.base[frame] + code.x[at]); break;
                case CALL_ENTRY: invokeEntry(frame, at); break;
                default: break;
            }
        }

        private boolean isZero(int frame, int at) {
            return (int) read(frame, code.x[at]) == 0;
        }

        private void branch(int frame, int at) {
            int base = activity.base[frame];
            activity.move(base + code.x[at], base + code.to[at], code.y[at]);
            activity.next[frame] = code.z[at];
        }

        private int tableEntry(int frame, int at) {
            return at + 1 + (int) Math.min(read(frame, code.x[at]) & LOW_BITS, code.y[at]);
        }

        private void invokeEntry(int frame, int at) {
            int found = world.find(read(frame, code.y[at]), code.to[at], code.z[at], program);
            if (found < 0) {
                activity.fail(-found);
            } else {
                activity.enter(found, activity.values, activity.base[frame] + code.x[at]);
            }
        }

        private long read(int frame, int operand) {
            return operand < 0 ? program.constant(~operand) : activity.value(activity.base[frame] + operand);
        }

        private void setRegister(int frame, int register, long value) {
            activity.setValue(activity.base[frame] + register, value);
        }
    }
}
