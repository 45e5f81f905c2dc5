/** A machine and the model, called alike; every answer is compared. */
final class Pair {
    final RegisterMachine machine = new RegisterMachine();
    private final Model model = new Model();
    private final Check check;
    private final String name;
    private final StringBuilder told = new StringBuilder();

    Pair(String name, Check check) {
        this.name = name;
        this.check = check;
    }

    private void compare(String call, long got, long due) {
        told.append(call).append(" = ").append(due).append('\n');
        if (got != due && check.wrong() == 0) {
            System.out.println(name + " went so:\n" + told);
        }
        check.same(name + ": " + call, got, due);
    }

    int function(int p, int r, int l) {
        int got = machine.function(p, r, l);
        compare("function(" + p + ", " + r + ", " + l + ")", got, model.function(p, r, l));
        return got;
    }

    int code(int op, int a, int b) {
        int got = machine.code(op, a, b);
        compare("code(" + op + ", " + a + ", " + b + ")", got, model.code(op, a, b));
        return got;
    }

    boolean drop() {
        boolean got = machine.drop();
        compare("drop()", got ? 1 : 0, model.drop() ? 1 : 0);
        return got;
    }

    void entry(int k, int f) {
        compare("entry(" + k + ", " + f + ")", machine.entry(k, f) ? 1 : 0, model.entry(k, f) ? 1 : 0);
    }

    int argument(long v) {
        int got = machine.argument(v);
        compare("argument(" + v + "L)", got, model.argument(v));
        return got;
    }

    boolean call(int f) {
        boolean got = machine.call(f);
        compare("call(" + f + ")", got ? 1 : 0, model.call(f) ? 1 : 0);
        return got;
    }

    int run(int n) {
        int got = machine.run(n);
        compare("run(" + n + ")", got, model.run(n));
        return got;
    }

    int state(int what) {
        int got = machine.state(what);
        compare("state(" + what + ")", got, model.state(what));
        return got;
    }

    void tier(int n) {
        compare("tier(" + n + ")", machine.tier(n), model.tier(n));
    }

    int look(int f, int what) {
        int got = machine.look(f, what);
        compare("look(" + f + ", " + what + ")", got, model.look(f, what));
        return got;
    }

    void result(int k) {
        compare("result(" + k + ")", machine.result(k), model.result(k));
    }

    void global(int k) {
        compare("global(" + k + ")", machine.global(k), model.global(k));
    }

    void memory(int address) {
        compare("memory(" + address + ")", machine.memory(address), model.memory(address));
    }

    void lookAll() {
        for (int what = -1; what <= 12; what++) {
            state(what);
        }
        for (int k = -1; k <= 8; k++) {
            result(k);
            global(k);
        }
        for (int address = -1; address <= 385; address++) {
            if (machine.memory(address) != model.memory(address)) {
                memory(address);
            }
        }
    }
}
