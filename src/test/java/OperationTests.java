/** Each operation with its edges, in both machines, with operands from locals, constants and slots. */
public final class OperationTests {
    private static final long TOP = 0xFFFFFFFFL;
    private static final long LEAST = Long.MIN_VALUE;

    private final Check check = new Check();

    public static void main(String[] args) {
        OperationTests tests = new OperationTests();
        tests.on32Bits();
        tests.on64Bits();
        tests.divisions();
        tests.selects();
        tests.constants();
        tests.loads();
        tests.stores();
        tests.memoryEnds();
        tests.grows();
        tests.conditionsHave32Bits();
        tests.check.finish();
    }

    /** Puts a value: from a local (0), as a constant (1), or computed into a slot (2). */
    private static void put(RegisterMachine m, int way, int local, long v) {
        if (way == 0) {
            m.code(32, local, 0);
        } else {
            m.code(66, (int) v, (int) (v >> 32));
            if (way == 2) {
                m.code(66, 0, 0);
                m.code(124, 0, 0);
            }
        }
    }

    /** Runs one operation in every way; trap 0: it is due to end with the result. */
    private void same(int op, int a, long[] operands, long due, int trap) {
        for (int way = 0; way < 9; way++) {
            for (int tier = 0; tier < 2; tier++) {
                RegisterMachine m = new RegisterMachine();
                m.tier(tier);
                m.function(operands.length, 1, 0);
                for (int i = 0; i < operands.length; i++) {
                    put(m, i % 2 == 0 ? way % 3 : way / 3, i, operands[i]);
                    m.argument(operands[i]);
                }
                String what = "operation " + op + " way " + way + " tier " + tier;
                check.same(what + " is taken", m.code(op, a, 12345) > 0, true);
                check.same(what + " gives one", m.code(11, 0, 0) > 0, true);
                check.same(what + " is called", m.call(0), true);
                int steps = m.run(50);
                check.same(what + " steps", steps, m.state(6) - 1);
                check.same(what + " state", m.state(0), trap == 0 ? 2 : 3);
                check.same(what + " trap", m.state(1), trap);
                check.same(what + " of " + java.util.Arrays.toString(operands), m.result(0), trap == 0 ? due : 0);
            }
        }
    }

    private void two(int op, long x, long y, long due) {
        same(op, 0, new long[] {x, y}, due, 0);
    }

    private void one(int op, long x, long due) {
        same(op, 0, new long[] {x}, due, 0);
    }

    private void on32Bits() {
        long high = 0x500000000L;
        one(69, 0, 1);
        one(69, high, 1);
        one(69, 7, 0);
        two(70, 3, high + 3, 1);
        two(70, 3, 4, 0);
        two(71, 3, high + 3, 0);
        two(71, 3, 4, 1);
        two(72, TOP, 0, 1);
        two(72, 0, TOP, 0);
        two(72, high, 1, 1);
        two(72, 5, 5, 0);
        two(73, TOP, 0, 0);
        two(73, 0, TOP, 1);
        two(73, high + 2, 3, 1);
        two(73, 5, high + 5, 0);
        two(106, TOP, 1, 0);
        two(106, high + 2, LEAST + 3, 5);
        two(106, 0x7FFFFFFF, 1, 0x80000000L);
        two(107, 0, 1, TOP);
        two(107, 9, 4, 5);
        two(107, high, 0, 0);
        two(108, 0x10000, 0x10000, 0);
        two(108, TOP, TOP, 1);
        two(108, high + 6, high + 7, 42);
        two(113, -1, high + 6, 6);
        two(113, 12, 10, 8);
        two(116, 1, 31, 0x80000000L);
        two(116, 1, 32, 1);
        two(116, 3, 33, 6);
        two(116, 3, -1, 0x80000000L);
        two(116, high + 0x80000001L, high + 1, 2);
        one(167, -1, TOP);
        one(167, high + 9, 9);
        one(173, -1, TOP);
        one(173, high + 0x80000000L, 0x80000000L);
    }

    private void on64Bits() {
        one(80, 0, 1);
        one(80, 1L << 32, 0);
        one(80, LEAST, 0);
        two(81, -5, -5, 1);
        two(81, 5, (1L << 32) + 5, 0);
        two(83, LEAST, 0, 1);
        two(83, 0, LEAST, 0);
        two(83, 4, 4, 0);
        two(83, TOP, 1L << 32, 1);
        two(124, Long.MAX_VALUE, 1, LEAST);
        two(124, TOP, 1, 1L << 32);
        two(125, LEAST, 1, Long.MAX_VALUE);
        two(125, 2, 5, -3);
        two(126, 1L << 32, 1L << 32, 0);
        two(126, -3, 5, -15);
        two(126, 1L << 40, 1L << 10, 1L << 50);
    }

    private void divisions() {
        two(110, 17, 5, 3);
        two(110, TOP, 2, 0x7FFFFFFF);
        two(110, -1, -1, 1);
        two(110, 0x80000000L, TOP, 0);
        two(110, 0x700000008L, 0x300000002L, 4);
        same(110, 0, new long[] {1, 0}, 0, 11);
        same(110, 0, new long[] {0, 0}, 0, 11);
        same(110, 0, new long[] {1, 1L << 32}, 0, 11);
    }

    private void selects() {
        same(27, 0, new long[] {5, 6, 1}, 5, 0);
        same(27, 0, new long[] {5, 6, 0}, 6, 0);
        same(27, 0, new long[] {LEAST, -6, 1L << 32}, -6, 0);
        same(27, 0, new long[] {LEAST, -6, 1L << 31}, LEAST, 0);
    }

    private void constants() {
        for (int tier = 0; tier < 2; tier++) {
            RegisterMachine m = new RegisterMachine();
            m.tier(tier);
            m.function(0, 6, 0);
            int[] numbers = {65, -1, 9, 65, Integer.MIN_VALUE, -9, 65, 77, 0, 66, -1, 0, 66, 1, Integer.MIN_VALUE, 66, 0, 5};
            for (int i = 0; i < numbers.length; i += 3) {
                m.code(numbers[i], numbers[i + 1], numbers[i + 2]);
            }
            m.code(11, 0, 0);
            m.call(0);
            m.run(9);
            long[] due = {TOP, 0x80000000L, 77, TOP, LEAST + 1, 5L << 32};
            for (int k = 0; k < 6; k++) {
                check.same("constant " + k, m.result(k), due[k]);
            }
        }
    }

    /** A machine whose bytes 0 .. 15 are 0x81, 0x92, 0xA3 and so on, and a function 1 that does one load or store. */
    private RegisterMachine prepared(int tier, int op, int a) {
        RegisterMachine m = new RegisterMachine();
        m.tier(tier);
        m.function(0, 0, 0);
        m.code(65, 0, 0);
        m.code(66, 0xB4A39281, 0xF8E7D6C5);
        m.code(55, 0, 0);
        m.code(65, 8, 0);
        m.code(66, 0x04030201, 0x08070605);
        m.code(55, 0, 0);
        m.code(11, 0, 0);
        m.call(0);
        check.same("prepared", m.run(9), 6);
        boolean isStore = op >= 54;
        m.function(isStore ? 2 : 1, isStore ? 0 : 1, 0);
        m.code(32, 0, 0);
        if (isStore) {
            m.code(32, 1, 0);
        }
        m.code(op, a, 0);
        m.code(11, 0, 0);
        return m;
    }

    private void load(int op, long due, long dueLow) {
        for (int tier = 0; tier < 2; tier++) {
            for (int way = 0; way < 3; way++) {
                RegisterMachine m = prepared(tier, op, way == 0 ? 0 : way == 1 ? 3 : 1);
                m.argument(way == 0 ? 0x700000000L : way == 1 ? 5 : -1);
                m.call(1);
                m.run(9);
                boolean isTrap = way == 2;
                check.same("load " + op + " state", m.state(0), isTrap ? 3 : 2);
                check.same("load " + op + " trap", m.state(1), isTrap ? 4 : 0);
                check.same("load " + op, m.result(0), isTrap ? 0 : way == 0 ? due : dueLow);
            }
        }
    }

    private void loads() {
        load(40, 0xB4A39281L, 0x04030201L);
        load(42, 0xB4A39281L, 0x04030201L);
        load(41, 0xF8E7D6C5B4A39281L, 0x0807060504030201L);
        load(43, 0xF8E7D6C5B4A39281L, 0x0807060504030201L);
        load(44, 0xFFFFFF81L, 1);
        load(45, 0x81L, 1);
        load(46, 0xFFFF9281L, 0x0201);
        load(47, 0x9281L, 0x0201);
        load(48, 0xFFFFFFFFFFFFFF81L, 1);
        load(49, 0x81L, 1);
        load(50, 0xFFFFFFFFFFFF9281L, 0x0201);
        load(51, 0x9281L, 0x0201);
        load(52, 0xFFFFFFFFB4A39281L, 0x04030201);
        load(53, 0xB4A39281L, 0x04030201);
    }

    private void stores() {
        int[] ops = {54, 55, 56, 57, 58, 59, 60, 61, 62};
        int[] bytes = {4, 8, 4, 8, 1, 2, 1, 2, 4};
        long value = 0x1122334455667788L;
        for (int tier = 0; tier < 2; tier++) {
            for (int i = 0; i < ops.length; i++) {
                RegisterMachine m = prepared(tier, ops[i], 20);
                m.argument(2);
                m.argument(value);
                m.call(1);
                check.same("store steps", m.run(2), 2);
                check.same("not yet", m.memory(22), 0);
                check.same("the step", m.run(2), 1);
                for (int k = 0; k < 12; k++) {
                    long due = k < 2 || k >= 2 + bytes[i] ? 0 : (value >> (8 * (k - 2))) & 255;
                    check.same("store " + ops[i] + " byte " + k, m.memory(20 + k), due);
                }
            }
        }
    }

    private void memoryEnds() {
        String bytes = "48481122112244" + "484812124";
        for (int op = 40; op <= 62; op++) {
            int n = bytes.charAt(op - 40) - '0';
            for (int tier = 0; tier < 2; tier++) {
                end(op, tier, 64 - n, 0, true);
                end(op, tier, 65 - n, 0, false);
                end(op, tier, 0, 64 - n, true);
                end(op, tier, 1, 64 - n, false);
                end(op, tier, 0, -1, false);
                end(op, tier, -1, -1, false);
                end(op, tier, -1, 1, false);
                end(op, tier, 0x80000000L, 0x80000000, false);
                end(op, tier, 64, 0, false);
            }
        }
    }

    private void end(int op, int tier, long address, int offset, boolean isInside) {
        RegisterMachine m = prepared(tier, op, offset);
        m.argument(address);
        if (op >= 54) {
            m.argument(-1);
        }
        m.call(1);
        m.run(9);
        check.same("end of memory, " + op + " at " + address + " + " + offset, m.state(1), isInside ? 0 : 4);
        boolean isWritten = isInside && op >= 54;
        check.same("last byte", m.memory(63), isWritten ? 255 : 0);
        if (!isInside) {
            check.same("nothing is written in part", m.memory(0), 0x81);
        }
    }

    private void grows() {
        for (int tier = 0; tier < 2; tier++) {
            RegisterMachine m = new RegisterMachine();
            m.tier(tier);
            m.function(1, 2, 0);
            m.code(32, 0, 0);
            m.code(64, 0, 0);
            m.code(63, 0, 0);
            m.code(11, 0, 0);
            long[] more = {0, 6, -1, 0x80000000L, 2, 0x100000001L, 3, 2, 1, 0};
            long[] before = {1, TOP, TOP, TOP, 1, 3, TOP, 4, TOP, 6};
            int[] after = {1, 1, 1, 1, 3, 4, 4, 6, 6, 6};
            for (int i = 0; i < more.length; i++) {
                m.argument(more[i]);
                m.call(0);
                m.run(9);
                check.same("grows by " + more[i], m.result(0), before[i]);
                check.same("pages then", m.result(1), after[i]);
                check.same("pages", m.state(10), after[i]);
                check.same("its last byte", m.memory(64 * after[i] - 1), 0);
                check.same("beyond", m.memory(64 * after[i]), -1);
            }
        }
    }

    private void conditionsHave32Bits() {
        long[] values = {0, 1, 1L << 32, -1, 0x80000000L, LEAST};
        int[] due = {0, 1, 0, 1, 1, 0};
        for (int tier = 0; tier < 2; tier++) {
            RegisterMachine m = new RegisterMachine();
            m.tier(tier);
            m.function(1, 1, 0);
            for (int[] i : new int[][] {{65, 1, 0}, {32, 0, 0}, {13, 0, 0}, {26, 0, 0}, {65, 0, 0}, {11, 0, 0}}) {
                m.code(i[0], i[1], i[2]);
            }
            m.function(1, 1, 0);
            for (int[] i : new int[][] {{32, 0, 0}, {4, 0, 1}, {65, 1, 0}, {5, 0, 0}, {65, 0, 0}, {11, 0, 0}, {11, 0, 0}}) {
                m.code(i[0], i[1], i[2]);
            }
            for (int f = 0; f < 2; f++) {
                for (int i = 0; i < values.length; i++) {
                    m.argument(values[i]);
                    m.call(f);
                    m.run(20);
                    check.same("condition " + values[i] + " of " + f, m.result(0), due[i]);
                }
            }
        }
    }
}
