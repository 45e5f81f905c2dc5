import java.util.ArrayList;
import java.util.List;

/**
 * The document once more, written in another way for the tests: labels are kept while the code runs, ends
 * are looked for when they are needed, and there is one machine only (what is compiled is just counted).
 */
final class Model {
    private static final class Instruction {
        final int op;
        final int a;
        final int b;

        Instruction(int op, int a, int b) {
            this.op = op;
            this.a = a;
            this.b = b;
        }
    }

    private static final class Function {
        final int parameters;
        final int results;
        final int locals;
        final List<Instruction> body = new ArrayList<>();
        int most;
        int counted;
        boolean compiled;

        Function(int parameters, int results, int locals) {
            this.parameters = parameters;
            this.results = results;
            this.locals = locals;
        }
    }

    /** A label, while it is written (own: its operands) and while it runs (height, begin). */
    private static final class Label {
        int op;
        int parameters;
        int results;
        int own;
        int height;
        int begin;
        boolean dead;
        boolean hasElse;

        int wants() {
            return op == 3 ? parameters : results;
        }
    }

    private static final class Frame {
        Function function;
        long[] locals;
        int pc;
        final List<Long> operands = new ArrayList<>();
        final List<Label> labels = new ArrayList<>();

        int asks() {
            return locals.length + function.most;
        }
    }

    private final List<Function> functions = new ArrayList<>();
    private Function written;
    private final List<Label> labels = new ArrayList<>();
    private int entriesDue;
    private int entriesWant;
    private final int[] table = new int[30];
    private final long[] globals = new long[8];
    private byte[] memory = new byte[64];
    private final List<Long> arguments = new ArrayList<>();
    private final List<Frame> frames = new ArrayList<>();
    private List<Long> results = new ArrayList<>();
    private Function latest;
    private int state;
    private int trap;
    private int steps;
    private int tier = 2;

    Model() {
        java.util.Arrays.fill(table, -1);
    }

    int function(int parameters, int results, int locals) {
        for (int n : new int[] {parameters, results, locals}) {
            if (n < 0 || n > 8) {
                return -1;
            }
        }
        if (written != null || functions.size() == 40) {
            return -1;
        }
        written = new Function(parameters, results, locals);
        functions.add(written);
        Label outermost = new Label();
        outermost.results = results;
        outermost.op = 2;
        labels.clear();
        labels.add(outermost);
        entriesDue = 0;
        return functions.size() - 1;
    }

    boolean drop() {
        if (written == null) {
            return false;
        }
        functions.remove(functions.size() - 1);
        written = null;
        return true;
    }

    int code(int op, int a, int b) {
        if (written == null || instructions() >= 1500) {
            return -1;
        }
        Function target = written;
        if (!accept(op, a, b)) {
            return -1;
        }
        target.body.add(new Instruction(op, a, b));
        return instructions();
    }

    private Label inner() {
        return labels.get(labels.size() - 1);
    }

    private Label label(int a) {
        return a < 0 || a >= labels.size() ? null : labels.get(labels.size() - 1 - a);
    }

    private boolean enough(int n) {
        return inner().dead || inner().own >= n;
    }

    private boolean change(int takes, int puts) {
        if (!enough(takes)) {
            return false;
        }
        inner().own = Math.max(0, inner().own - takes) + puts;
        int sum = 0;
        for (Label l : labels) {
            sum += l.own;
        }
        written.most = Math.max(written.most, sum);
        return true;
    }

    private boolean deaden(int takes) {
        if (!enough(takes)) {
            return false;
        }
        inner().own = 0;
        inner().dead = true;
        return true;
    }

    private boolean accept(int op, int a, int b) {
        if (entriesDue > 0) {
            Label l = label(a);
            if (op != 6 || l == null || !enough(l.wants()) || (entriesWant >= 0 && entriesWant != l.wants())) {
                return false;
            }
            entriesWant = l.wants();
            entriesDue--;
            return entriesDue > 0 || deaden(0);
        }
        switch (op) {
            case 0: return deaden(0);
            case 1: return true;
            case 2: case 3: case 4: return acceptBegin(op, a, b);
            case 5:
                if (inner().op != 4 || inner().hasElse || !full()) {
                    return false;
                }
                inner().hasElse = true;
                inner().dead = false;
                inner().own = 0;
                return change(0, inner().parameters);
            case 11: return acceptEnd();
            case 12: return label(a) != null && deaden(label(a).wants());
            case 13: return label(a) != null && change(label(a).wants() + 1, label(a).wants());
            case 14:
                if (a < 0 || a > 20 || !change(1, 0)) {
                    return false;
                }
                entriesDue = a + 1;
                entriesWant = -1;
                return true;
            case 15: return deaden(written.results);
            case 16:
                return a >= 0 && a < functions.size()
                        && change(functions.get(a).parameters, functions.get(a).results);
            case 17: return a >= 0 && a <= 8 && b >= 0 && b <= 8 && change(1 + a, b);
            case 26: return change(1, 0);
            case 27: return change(3, 1);
            case 32: return isLocal(a) && change(0, 1);
            case 33: return isLocal(a) && change(1, 0);
            case 34: return isLocal(a) && change(1, 1);
            case 35: return a >= 0 && a < 8 && change(0, 1);
            case 36: return a >= 0 && a < 8 && change(1, 0);
            case 63: case 65: case 66: return change(0, 1);
            case 64: case 69: case 80: case 167: case 173: return change(1, 1);
            case 70: case 71: case 72: case 73: case 81: case 83: case 106: case 107: case 108: case 110:
            case 113: case 116: case 124: case 125: case 126: return change(2, 1);
            default:
                return op >= 40 && op <= 53 ? change(1, 1) : op >= 54 && op <= 62 && change(2, 0);
        }
    }

    private boolean isLocal(int a) {
        return a >= 0 && a < written.parameters + written.locals;
    }

    private boolean full() {
        return inner().dead ? inner().own <= inner().results : inner().own == inner().results;
    }

    private boolean acceptBegin(int op, int a, int b) {
        if (a < 0 || a > 4 || b < 0 || b > 4 || !change(a + (op == 4 ? 1 : 0), 0)) {
            return false;
        }
        Label l = new Label();
        l.op = op;
        l.parameters = a;
        l.results = b;
        labels.add(l);
        return change(0, a);
    }

    private boolean acceptEnd() {
        Label l = inner();
        if (!full() || (l.op == 4 && !l.hasElse && l.parameters != l.results)) {
            return false;
        }
        l.own = 0;
        if (labels.size() == 1) {
            written = null;
            return true;
        }
        labels.remove(labels.size() - 1);
        return change(0, l.results);
    }

    private boolean whole(int f) {
        return f >= 0 && f < functions.size() && functions.get(f) != written;
    }

    boolean entry(int k, int f) {
        if (k < 0 || k > 29 || (f != -1 && !whole(f))) {
            return false;
        }
        table[k] = f;
        return true;
    }

    int argument(long v) {
        if (arguments.size() == 8) {
            return -1;
        }
        arguments.add(v);
        return arguments.size();
    }

    boolean call(int f) {
        if (!whole(f) || functions.get(f).parameters != arguments.size()) {
            return false;
        }
        latest = functions.get(f);
        frames.clear();
        results = new ArrayList<>();
        state = 1;
        steps = 0;
        enter(latest, new ArrayList<>(arguments));
        arguments.clear();
        settle();
        return true;
    }

    int run(int n) {
        if (n < 0 || n > 2000) {
            return -1;
        }
        int done = 0;
        while (done < n && state == 1) {
            Frame f = current();
            Instruction i = f.function.body.get(f.pc++);
            steps++;
            done++;
            execute(f, i);
            settle();
        }
        return done;
    }

    private Frame current() {
        return frames.get(frames.size() - 1);
    }

    private void enter(Function f, List<Long> given) {
        Frame frame = new Frame();
        frame.function = f;
        frame.locals = new long[f.parameters + f.locals];
        int sum = frame.asks();
        for (Frame other : frames) {
            sum += other.asks();
        }
        if (frames.size() == 30 || sum > 220) {
            state = 4;
            return;
        }
        for (int i = 0; i < given.size(); i++) {
            frame.locals[i] = given.get(i);
        }
        Label outermost = new Label();
        outermost.op = 2;
        outermost.results = f.results;
        outermost.begin = -1;
        frame.labels.add(outermost);
        frames.add(frame);
        f.counted++;
        if (tier > 0 && f.counted >= tier) {
            f.compiled = true;
        }
    }

    private void settle() {
        while (state == 1) {
            Frame f = current();
            Instruction i = f.function.body.get(f.pc);
            if (i.op == 2 || i.op == 3) {
                begin(f, f.pc);
                f.pc++;
            } else if (i.op == 5) {
                f.pc = seek(f, f.pc + 1, false);
            } else if (i.op == 11) {
                f.labels.remove(f.labels.size() - 1);
                f.pc++;
                if (f.labels.isEmpty()) {
                    leave(f);
                }
            } else {
                return;
            }
        }
    }

    private void begin(Frame f, int at) {
        Instruction i = f.function.body.get(at);
        Label l = new Label();
        l.op = i.op;
        l.parameters = i.a;
        l.results = i.b;
        l.height = f.operands.size() - i.a;
        l.begin = at;
        f.labels.add(l);
    }

    /** The END, or if it is wanted the ELSE, of the label that is open at a place. */
    private int seek(Frame f, int from, boolean orElse) {
        int depth = 0;
        for (int at = from; ; at++) {
            int op = f.function.body.get(at).op;
            if (depth == 0 && (op == 11 || (orElse && op == 5))) {
                return at;
            }
            depth += op >= 2 && op <= 4 ? 1 : op == 11 ? -1 : 0;
        }
    }

    private void leave(Frame f) {
        int n = f.function.results;
        List<Long> out = new ArrayList<>(f.operands.subList(f.operands.size() - n, f.operands.size()));
        frames.remove(frames.size() - 1);
        if (frames.isEmpty()) {
            state = 2;
            results = out;
        } else {
            current().operands.addAll(out);
        }
    }

    private void branch(Frame f, int depth) {
        Label l = f.labels.get(f.labels.size() - 1 - depth);
        int n = l.wants();
        List<Long> kept = new ArrayList<>(f.operands.subList(f.operands.size() - n, f.operands.size()));
        while (f.operands.size() > l.height) {
            f.operands.remove(f.operands.size() - 1);
        }
        f.operands.addAll(kept);
        while (f.labels.get(f.labels.size() - 1) != l) {
            f.labels.remove(f.labels.size() - 1);
        }
        f.pc = l.op == 3 ? l.begin + 1 : seek(f, l.begin + 1, false);
    }

    private void fail(int reason) {
        trap = reason;
        state = 3;
    }

    private long pop(Frame f) {
        return f.operands.remove(f.operands.size() - 1);
    }

    private void push(Frame f, long v) {
        f.operands.add(v);
    }

    private void execute(Frame f, Instruction i) {
        if (i.op >= 69) {
            calculate(f, i.op);
            return;
        }
        if (i.op >= 40 && i.op <= 62) {
            access(f, i);
            return;
        }
        switch (i.op) {
            case 0: fail(1); break;
            case 4:
                boolean holds = (pop(f) & 0xFFFFFFFFL) != 0;
                begin(f, f.pc - 1);
                if (!holds) {
                    f.pc = seek(f, f.pc, true);
                    f.pc += f.function.body.get(f.pc).op == 5 ? 1 : 0;
                }
                break;
            case 12: branch(f, i.a); break;
            case 13: if ((pop(f) & 0xFFFFFFFFL) != 0) { branch(f, i.a); } break;
            case 14:
                long number = Math.min(pop(f) & 0xFFFFFFFFL, i.a);
                branch(f, f.function.body.get(f.pc + (int) number).a);
                break;
            case 15: branch(f, f.labels.size() - 1); break;
            case 16: invoke(f, functions.get(i.a)); break;
            case 17: indirect(f, i); break;
            case 26: pop(f); break;
            case 27:
                long c = pop(f);
                long y = pop(f);
                long x = pop(f);
                push(f, (c & 0xFFFFFFFFL) != 0 ? x : y);
                break;
            case 32: push(f, f.locals[i.a]); break;
            case 33: f.locals[i.a] = pop(f); break;
            case 34: f.locals[i.a] = f.operands.get(f.operands.size() - 1); break;
            case 35: push(f, globals[i.a]); break;
            case 36: globals[i.a] = pop(f); break;
            case 63: push(f, memory.length / 64); break;
            case 64:
                long more = pop(f) & 0xFFFFFFFFL;
                long had = memory.length / 64;
                push(f, had + more > 6 ? 4294967295L : had);
                memory = had + more > 6 ? memory : java.util.Arrays.copyOf(memory, (int) (had + more) * 64);
                break;
            case 65: push(f, Integer.toUnsignedLong(i.a)); break;
            case 66: push(f, Integer.toUnsignedLong(i.a) + i.b * 4294967296L); break;
            default: break;
        }
    }

    private void invoke(Frame f, Function called) {
        List<Long> given = new ArrayList<>();
        for (int i = 0; i < called.parameters; i++) {
            given.add(0, pop(f));
        }
        enter(called, given);
    }

    private void indirect(Frame f, Instruction i) {
        long index = pop(f) & 0xFFFFFFFFL;
        if (index >= 30) {
            fail(6);
        } else if (table[(int) index] < 0) {
            fail(7);
        } else {
            Function called = functions.get(table[(int) index]);
            if (called.parameters != i.a || called.results != i.b) {
                fail(8);
            } else {
                invoke(f, called);
            }
        }
    }

    private void access(Frame f, Instruction i) {
        String bytes = "48481122112244" + "484812124";
        int n = bytes.charAt(i.op - 40) - '0';
        long value = i.op >= 54 ? pop(f) : 0;
        long place = (pop(f) & 0xFFFFFFFFL) + Integer.toUnsignedLong(i.a);
        if (place + n > memory.length) {
            fail(4);
            return;
        }
        if (i.op >= 54) {
            for (int k = 0; k < n; k++) {
                memory[(int) place + k] = (byte) (value >> (8 * k));
            }
            return;
        }
        for (int k = 0; k < n; k++) {
            value += (memory[(int) place + k] & 0xFFL) << (8 * k);
        }
        boolean signed = i.op == 44 || i.op == 46 || i.op == 48 || i.op == 50 || i.op == 52;
        if (signed) {
            value = value << (64 - 8 * n) >> (64 - 8 * n);
        }
        push(f, i.op == 44 || i.op == 46 ? Integer.toUnsignedLong((int) value) : value);
    }

    private void calculate(Frame f, int op) {
        boolean one = op == 69 || op == 80 || op == 167 || op == 173;
        long y = one ? 0 : pop(f);
        long x = pop(f);
        int p = (int) x;
        int q = (int) y;
        if (op == 110 && q == 0) {
            fail(11);
            return;
        }
        switch (op) {
            case 69: push(f, p == 0 ? 1 : 0); break;
            case 70: push(f, p == q ? 1 : 0); break;
            case 71: push(f, p == q ? 0 : 1); break;
            case 72: push(f, p < q ? 1 : 0); break;
            case 73: push(f, Integer.compareUnsigned(p, q) < 0 ? 1 : 0); break;
            case 80: push(f, x == 0 ? 1 : 0); break;
            case 81: push(f, x == y ? 1 : 0); break;
            case 83: push(f, x < y ? 1 : 0); break;
            case 106: push(f, Integer.toUnsignedLong(p + q)); break;
            case 107: push(f, Integer.toUnsignedLong(p - q)); break;
            case 108: push(f, Integer.toUnsignedLong(p * q)); break;
            case 110: push(f, Integer.toUnsignedLong(Integer.divideUnsigned(p, q))); break;
            case 113: push(f, Integer.toUnsignedLong(p & q)); break;
            case 116: push(f, Integer.toUnsignedLong(p << Math.floorMod(q, 32))); break;
            case 124: push(f, x + y); break;
            case 125: push(f, x - y); break;
            case 126: push(f, x * y); break;
            default: push(f, Integer.toUnsignedLong(p)); break;
        }
    }

    int state(int what) {
        switch (what) {
            case 0: return state;
            case 1: return trap;
            case 2: return state == 1 ? frames.size() : 0;
            case 3: return latest == null ? 0 : latest.counted;
            case 4: return steps;
            case 5: return functions.size();
            case 6: return instructions();
            case 7: return written == null ? 0 : labels.size();
            case 8: return written == null ? 0 : inner().own;
            case 9: return written != null && inner().dead ? 1 : 0;
            case 10: return memory.length / 64;
            case 11: return (int) functions.stream().filter(f -> f.compiled).count();
            default: return -1;
        }
    }

    private int instructions() {
        int sum = 0;
        for (Function f : functions) {
            sum += f.body.size();
        }
        return sum;
    }

    int tier(int n) {
        int was = tier;
        if (n < 0) {
            return -1;
        }
        tier = n;
        return was;
    }

    long result(int k) {
        return k >= 0 && k < results.size() ? results.get(k) : 0;
    }

    long global(int k) {
        return k >= 0 && k < 8 ? globals[k] : 0;
    }

    int memory(int address) {
        return address >= 0 && address < memory.length ? memory[address] & 255 : -1;
    }

    int look(int f, int what) {
        if (!whole(f)) {
            return -1;
        }
        Function g = functions.get(f);
        int[] told = {g.parameters, g.results, g.locals, g.most};
        return what >= 0 && what < 4 ? told[what] : -1;
    }
}
