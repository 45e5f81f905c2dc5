/**
 * The sentences about calls, frames, what stops a run and what is counted, each on both sides of its boundary,
 * with the stack, with registers, and with the change from one to the other; a comment in quotes is the
 * sentence of the document that the test is for.
 */
public final class CallingTests extends Bench {
    private static final long HIGH = 1L << 32;
    private static final int CALLS = 4;

    public static void main(String[] args) {
        CallingTests tests = new CallingTests();
        for (int tier = 0; tier <= 3; tier++) {
            tests.callsCarryOperands(tier);
            tests.callsByTheTable(tier);
            tests.localsAreZeroAtFirst(tier);
            tests.thirtyFrames(tier);
            tests.thirtyFramesByTheTable(tier);
            tests.wrongEntriesInTheLastFrame(tier);
            tests.valuesOfOneFrame(tier);
            tests.valuesOfTwoFrames(tier);
            tests.valuesOfAllFrames(tier);
            tests.valuesAreGivenBack(tier);
            tests.theLastOf220Values(tier);
            tests.callsThatExhaustAreNotCounted(tier);
            tests.trapsOfEachKind(tier);
            tests.trapsInInnerFrames(tier);
            tests.storesThatTrapWriteNothing(tier);
            tests.theLatestTrap(tier);
            tests.whatWasDoneStays(tier);
        }
        tests.tierSaysHowOften();
        tests.tierZeroIsNever();
        tests.numbersOfTier();
        tests.framesThatThereAreGoOn();
        tests.countedInside();
        tests.countedByTheTable();
        tests.functionsWithCodeForRegisters();
        tests.check.finish();
    }

    /** "16 CALL ..: takes its parameters, puts its results", 0 .. 8 each, and what is below them stays. */
    private void callsCarryOperands(int tier) {
        for (int n : new int[] {0, 1, 8}) {
            fresh(tier);
            int back = begin(n, n, 0);
            for (int i = n - 1; i >= 0; i--) {
                write("in the other order", GET, i, 0);
            }
            write("end", END, 0, 0);
            int caller = begin(1, Math.min(8, n + 1), 0);
            write("below", GET, 0, 0);
            for (int i = 0; i < n; i++) {
                write("arguments", i % 2 == 0 ? PUT : GET, i % 2 == 0 ? i : 0, 0);
            }
            write("call", CALL, back, 0);
            write(n == 8 ? "one of nine is too many" : "end", n == 8 ? ADD : NOTHING, 0, 0, END, 0, 0);
            long[] due = new long[Math.min(8, n + 1)];
            for (int i = 0; i < n && i + 1 < due.length; i++) {
                due[i + 1] = (n - 1 - i) % 2 == 0 ? n - 1 - i : 55;
            }
            due[0] = 55;
            if (n == 8) {
                due[7] = 55;
            }
            for (int i = 0; i < CALLS; i++) {
                gives("call of " + n, caller, with(55), 1 + n + 1 + n + 1, due);
            }
        }
    }

    /** "17 takes an index .. TRAPS 6 if it is not below 30, 7 if there is none, 8 if it has not just so many". */
    private void callsByTheTable(int tier) {
        fresh(tier);
        int minus = whole("minus", 2, 1, 0, GET, 0, 0, GET, 1, 0, SUBTRACT, 0, 0, END, 0, 0);
        int fewer = whole("a parameter less", 1, 1, 0, GET, 0, 0, END, 0, 0);
        int more = whole("a parameter more", 3, 1, 0, GET, 0, 0, END, 0, 0);
        int silent = whole("a result less", 2, 0, 0, END, 0, 0);
        int two = whole("a result more", 2, 2, 0, GET, 0, 0, GET, 0, 0, END, 0, 0);
        int[] places = {0, 29, 1, 2, 3, 4};
        int[] functions = {minus, minus, fewer, more, silent, two};
        for (int i = 0; i < places.length; i++) {
            check.same("entry", m.entry(places[i], functions[i]), true);
        }
        int f = whole("by the table", 1, 2, 0, PUT, 70, 0, PUT, 9, 0, PUT, 4, 0, GET, 0, 0, CALL_ENTRY, 2, 1, END, 0, 0);
        for (int i = 0; i < CALLS; i++) {
            gives("the first entry", f, with(0), 8, 70, 5);
            gives("the last entry", f, with(29), 8, 70, 5);
            gives("32 bits", f, with(HIGH + 29), 8, 70, 5);
            for (long index : new long[] {30, 31, -1, 1L << 31, HIGH + 30, HIGH - 1}) {
                traps("index " + index, f, with(index), 5, 6);
            }
            for (long index : new long[] {5, 28, HIGH + 5}) {
                traps("no function at " + index, f, with(index), 5, 7);
            }
            for (long index = 1; index <= 4; index++) {
                traps("another shape at " + index, f, with(index), 5, 8);
            }
        }
    }

    /** "locals are the parameters and then these, 0 at first". */
    private void localsAreZeroAtFirst(int tier) {
        fresh(tier);
        int dirty = begin(8, 0, 8);
        for (int i = 0; i < 16; i++) {
            write("leaves something", PUT_64, -1, -1, TEE, i, 0, PUT_64, -1, -1, FORGET, 0, 0, FORGET, 0, 0);
        }
        write("end", END, 0, 0);
        int clean = begin(0, 8, 8);
        for (int i = 0; i < 8; i++) {
            write("looks and leaves something", GET, i, 0, PUT_64, -1, -1, SET, i, 0);
        }
        write("end", END, 0, 0);
        int both = whole("calls both", 0, 8, 0, PUT, 1, 0, PUT, 2, 0, PUT, 3, 0, PUT, 4, 0, PUT, 5, 0, PUT, 6, 0, PUT, 7, 0,
            PUT, 8, 0, CALL, dirty, 0, CALL, clean, 0, END, 0, 0);
        for (int i = 0; i < CALLS; i++) {
            callWith(dirty, 1, 2, 3, 4, 5, 6, 7, 8);
            m.run(2000);
            gives("from outside", clean, with(), 24, 0, 0, 0, 0, 0, 0, 0, 0);
            gives("from inside", both, with(), 10 + 5 * 16 + 24, 0, 0, 0, 0, 0, 0, 0, 0);
        }
    }

    /** "At most 30 frames .. a call that would need more EXHAUSTS (and is a step ..)". */
    private void thirtyFrames(int tier) {
        fresh(tier);
        int f = whole("so deep", 1, 0, 0, GET, 0, 0, IF, 0, 0, GET, 0, 0, PUT, 1, 0, SUBTRACT, 0, 0, CALL, 0, 0, END, 0, 0,
            END, 0, 0);
        for (int i = 0; i < CALLS; i++) {
            gives("30 frames", f, with(29), 29 * 6 + 2);
            callWith(f, 29);
            m.run(29 * 6);
            states("the thirtieth", 0, 1, 2, 30);
            callWith(f, 30);
            m.run(30 * 6 - 1);
            states("before it", 0, 1, 2, 30, 4, 179);
            check.same("the call is a step", m.run(5), 1);
            states("exhausted", 0, 4, 2, 0, 4, 180);
            check.same("it has stopped", m.run(5), 0);
            states("no step more", 4, 180);
        }
    }

    private void thirtyFramesByTheTable(int tier) {
        fresh(tier);
        int f = whole("so deep", 1, 0, 0, GET, 0, 0, IF, 0, 0, GET, 0, 0, PUT, 1, 0, SUBTRACT, 0, 0, PUT, 6, 0, CALL_ENTRY, 1, 0,
            END, 0, 0, END, 0, 0);
        m.entry(6, f);
        for (int i = 0; i < CALLS; i++) {
            gives("30 frames", f, with(29), 29 * 7 + 2);
            callWith(f, 30);
            check.same("steps", m.run(2000), 30 * 7);
            states("exhausted", 0, 4, 2, 0, 4, 210);
        }
    }

    /** What TRAPS is no call, so it does not EXHAUST where a call would. */
    private void wrongEntriesInTheLastFrame(int tier) {
        fresh(tier);
        int shape = whole("another shape", 0, 1, 0, PUT, 1, 0, END, 0, 0);
        int right = whole("the right shape", 0, 0, 0, NOTHING, 0, 0, END, 0, 0);
        m.entry(1, shape);
        m.entry(2, right);
        int f = whole("so deep, then by the table", 2, 0, 0, GET, 0, 0, IF, 0, 0, GET, 0, 0, PUT, 1, 0, SUBTRACT, 0, 0, GET, 1, 0,
            CALL, right + 1, 0, ELSE, 0, 0, GET, 1, 0, CALL_ENTRY, 0, 0, END, 0, 0, END, 0, 0);
        for (int i = 0; i < CALLS; i++) {
            int steps = 29 * 7 + 4;
            traps("no such entry", f, with(29, 30), steps, 6);
            traps("an empty entry", f, with(29, 0), steps, 7);
            traps("another shape", f, with(29, 1), steps, 8);
            callWith(f, 29, 2);
            check.same("a call", m.run(2000), steps);
            states("exhausted", 0, 4, 2, 0, 4, steps);
            gives("a frame is left", f, with(28, 2), 28 * 7 + 5);
        }
    }

    /** A function that has so many operands at once, none of them when it runs; then it does what is told. */
    private int asking(int locals, int operands, int... body) {
        int f = begin(0, 0, locals);
        write("behind the dead part", BLOCK, 0, 0, BRANCH, 0, 0);
        for (int left = operands; left > 0; left -= 8) {
            write("eight", PUT, 0, 0, CALL_ENTRY, 0, Math.min(8, left));
        }
        write("end of it", TRAP, 0, 0, END, 0, 0);
        write("then", body);
        check.same("it asks for operands", m.look(f, 3), operands);
        check.same("and locals", m.look(f, 2), locals);
        return f;
    }

    /** "and 220 values (locals and operands ..)"; "(and is a step, but not that from outside)". */
    private void valuesOfOneFrame(int tier) {
        int[][] fits = {{0, 220}, {1, 219}, {8, 212}};
        for (int[] n : fits) {
            fresh(tier);
            int just = asking(n[0], n[1], END, 0, 0);
            int more = asking(n[0], n[1] + 1, END, 0, 0);
            for (int i = 1; i <= CALLS; i++) {
                gives("220 values", just, with(), 1);
                states("counted", 3, i);
                check.same("221 are called", callWith(more), true);
                states("exhausted, without a step, not counted", 0, 4, 2, 0, 3, 0, 4, 0);
                check.same("nothing to run", m.run(9), 0);
                check.same("no result", m.result(0), 0);
            }
        }
    }

    /** "a frame asks for its locals and the most operands .., all frames for the sum of that". */
    private void valuesOfTwoFrames(int tier) {
        for (int more = 0; more <= 1; more++) {
            for (int locals = 0; locals <= 8; locals += 4) {
                fresh(tier);
                int inner = asking(locals, 100 + more - locals, END, 0, 0);
                int outer = asking(8 - locals, 112 + locals, CALL, inner, 0, CALL, inner, 0, END, 0, 0);
                m.entry(9, inner);
                int byTable = asking(8 - locals, 112 + locals, PUT, 9, 0, CALL_ENTRY, 0, 0, END, 0, 0);
                for (int i = 0; i < CALLS; i++) {
                    if (more == 0) {
                        gives("220 values", outer, with(), 5);
                        gives("220 values by the table", byTable, with(), 4);
                    } else {
                        exhausts("221 values", outer, 2);
                        exhausts("221 values by the table", byTable, 3);
                    }
                }
            }
        }
    }

    private void exhausts(String what, int function, int steps) {
        callWith(function);
        check.same(what + ": steps", m.run(2000), steps);
        states(what, 0, 4, 2, 0, 4, steps);
        check.same(what + ": it has stopped", m.run(1), 0);
    }

    private void valuesOfAllFrames(int tier) {
        for (int more = 0; more <= 1; more++) {
            fresh(tier);
            int last = asking(3, 7 + more, END, 0, 0);
            int third = asking(2, 48, CALL, last, 0, END, 0, 0);
            int second = asking(1, 59, CALL, third, 0, END, 0, 0);
            int first = asking(4, 96, CALL, second, 0, CALL, second, 0, END, 0, 0);
            for (int i = 0; i < CALLS; i++) {
                if (more == 0) {
                    gives("220 values", first, with(), 1 + 2 * (1 + 2 + 2 + 1));
                } else {
                    exhausts("221 values", first, 2 + 2 + 2);
                }
            }
        }
    }

    /** "(locals and operands of all frames ..)": of those that there are, not of those that there were. */
    private void valuesAreGivenBack(int tier) {
        fresh(tier);
        int inner = asking(8, 192, END, 0, 0);
        int f = whole("thirty-five times", 1, 0, 0, LOOP, 0, 0, CALL, inner, 0, GET, 0, 0, PUT, 1, 0, SUBTRACT, 0, 0, TEE, 0, 0,
            BRANCH_IF, 0, 0, END, 0, 0, END, 0, 0);
        for (int i = 0; i < CALLS; i++) {
            gives("one frame behind the other", f, with(35), 35 * 7);
        }
    }

    /** All 220 values are in use, and the uppermost of them are carried to a label and out of the function. */
    private void theLastOf220Values(int tier) {
        fresh(tier);
        int f = begin(1, 8, 7);
        for (int i = 1; i <= 204; i++) {
            write("operands", PUT, i, 0);
        }
        write("a label above them", BLOCK, 0, 4);
        for (int i = 205; i <= 212; i++) {
            write("operands", i % 2 == 0 ? PUT : GET, i % 2 == 0 ? i : 0, 0);
        }
        write("carry four", BRANCH, 0, 0, END, 0, 0, RETURN, 0, 0, END, 0, 0);
        check.same("212 operands and 8 locals", m.look(f, 3) + 8, 220);
        for (int i = 0; i < CALLS; i++) {
            gives("the last values", f, with(-i), 214, 201, 202, 203, 204, -i, 210, -i, 212);
        }
    }

    /** "a call makes a FRAME with its locals; it is counted for its function then". */
    private void callsThatExhaustAreNotCounted(int tier) {
        fresh(tier);
        int inner = asking(8, 100, END, 0, 0);
        int outer = asking(8, 105, CALL, inner, 0, END, 0, 0);
        int compiled = m.state(11);
        for (int i = 0; i < CALLS; i++) {
            exhausts("221 values", outer, 2);
            states("the caller was counted", 3, i + 1);
        }
        states("only the caller may be compiled", 11, compiled + (tier == 0 ? 0 : 1));
        callWith(inner);
        states("the first time for the other", 3, 1);
    }

    /** "Each instruction that is done, or TRAPS, is a STEP"; "3 it TRAPPED". */
    private void trapsOfEachKind(int tier) {
        fresh(tier);
        int one = whole("0", 0, 1, 0, PUT, 5, 0, TRAP, 0, 0, END, 0, 0);
        int load = whole("a load", 1, 1, 0, GET, 0, 0, LOAD_BYTE, 0, 0, END, 0, 0);
        int store = whole("a store", 1, 0, 0, GET, 0, 0, PUT, 1, 0, STORE_BYTE, 0, 0, END, 0, 0);
        int divide = whole("a division", 1, 1, 0, PUT, 8, 0, GET, 0, 0, DIVIDE, 0, 0, END, 0, 0);
        for (int i = 0; i < CALLS; i++) {
            traps("0", one, with(), 2, 1);
            gives("the last byte", load, with(63), 2, i == 0 ? 0 : 1);
            traps("beyond it", load, with(64), 2, 4);
            gives("the last byte", store, with(63), 3);
            traps("beyond it", store, with(64), 3, 4);
            gives("by 1", divide, with(1), 3, 8);
            traps("by 0", divide, with(0), 3, 11);
            traps("by 0 in 32 bits", divide, with(HIGH), 3, 11);
            check.same("it was written", m.memory(63), 1);
        }
    }

    private void trapsInInnerFrames(int tier) {
        fresh(tier);
        int inner = whole("divides", 1, 1, 0, PUT, 1, 0, GET, 0, 0, DIVIDE, 0, 0, END, 0, 0);
        int middle = whole("calls it", 1, 1, 0, GET, 0, 0, CALL, inner, 0, END, 0, 0);
        int outer = whole("calls that", 1, 1, 0, GET, 0, 0, CALL, middle, 0, END, 0, 0);
        for (int i = 0; i < CALLS; i++) {
            callWith(outer, 0);
            m.run(6);
            states("three frames", 0, 1, 2, 3, 4, 6);
            traps("all frames are over", outer, with(0), 7, 11);
            gives("and none is harmed", outer, with(1), 7, 1);
        }
    }

    private void storesThatTrapWriteNothing(int tier) {
        for (int op = 54; op <= 62; op++) {
            int width = op == 55 || op == 57 ? 8 : op == 58 || op == 60 ? 1 : op == 59 || op == 61 ? 2 : 4;
            fresh(tier);
            int f = whole("store", 1, 0, 0, GET, 0, 0, PUT_64, -1, -1, op, 0, 0, END, 0, 0);
            for (int i = 0; i < CALLS; i++) {
                traps("one byte is beyond", f, with(65 - width), 3, 4);
                for (int address = 56; address < 64; address++) {
                    check.same("not in part", m.memory(address), 0);
                }
            }
            gives("just inside", f, with(64 - width), 3);
            check.same("the last byte", m.memory(63), 255);
            check.same("the first of them", m.memory(64 - width), 255);
            check.same("the one before", m.memory(63 - width), 0);
        }
    }

    /** "1 the latest TRAP (0: none)". */
    private void theLatestTrap(int tier) {
        fresh(tier);
        int trap = whole("1", 0, 0, 0, TRAP, 0, 0, END, 0, 0);
        int divide = whole("11", 0, 1, 0, PUT, 0, 0, PUT, 0, 0, DIVIDE, 0, 0, END, 0, 0);
        int fine = whole("none", 0, 0, 0, NOTHING, 0, 0, END, 0, 0);
        states("none", 1, 0);
        gives("no trap", fine, with(), 1);
        states("none", 1, 0);
        traps("one", trap, with(), 1, 1);
        traps("another", divide, with(), 3, 11);
        callWith(trap);
        states("not yet another", 0, 1, 1, 11);
        m.run(1);
        states("another", 0, 3, 1, 1);
    }

    /** "whichever runs, steps, results, traps, globals and the memory are the same": what was done before a stop. */
    private void whatWasDoneStays(int tier) {
        fresh(tier);
        int[] effects = {GET, 0, 0, SET_GLOBAL, 3, 0, PUT, 5, 0, GET, 0, 0, STORE_BYTE, 0, 0, PUT, 1, 0, GROW, 0, 0, FORGET, 0, 0};
        int trapping = begin(1, 0, 0);
        write("effects", effects);
        write("trap", TRAP, 0, 0, END, 0, 0);
        int exhausting = begin(1, 0, 0);
        write("effects", effects);
        write("itself", GET, 0, 0, CALL, exhausting, 0, END, 0, 0);
        traps("trap", trapping, with(77), 9, 1);
        check.same("global", m.global(3), 77);
        check.same("byte", m.memory(5), 77);
        states("pages", 10, 2);
        for (int i = 1; i <= CALLS; i++) {
            callWith(exhausting, 77 + i);
            check.same("steps", m.run(2000), 300);
            states("exhausted", 0, 4, 10, 6);
            check.same("global", m.global(3), 77 + i);
            check.same("byte", m.memory(5), 77 + i);
        }
    }

    /** "When that was counted so often as tier() says, or more often, and has no code for registers, such is made". */
    private void tierSaysHowOften() {
        for (int tier = 1; tier <= 4; tier++) {
            fresh(tier);
            int f = whole("plain", 0, 1, 0, PUT, 3, 0, END, 0, 0);
            for (int i = 1; i <= 6; i++) {
                callWith(f);
                states("with the call", 3, i, 11, i >= tier ? 1 : 0);
                m.run(1);
                check.same("result", m.result(0), 3);
                states("not with its end", 3, i, 11, i >= tier ? 1 : 0);
            }
        }
        fresh(9);
        int f = whole("plain", 0, 0, 0, NOTHING, 0, 0, END, 0, 0);
        for (int i = 0; i < 4; i++) {
            callWith(f);
        }
        check.same("tier says less now", m.tier(2), 9);
        states("nothing is made by that", 11, 0);
        callWith(f);
        states("or more often", 3, 5, 11, 1);
        m.tier(100);
        callWith(f);
        states("it has code still", 3, 6, 11, 1);
    }

    /** "(0: never)". */
    private void tierZeroIsNever() {
        fresh(0);
        int f = whole("plain", 0, 0, 0, END, 0, 0);
        for (int i = 1; i <= 50; i++) {
            callWith(f);
            states("never", 3, i, 11, 0);
        }
        m.tier(1);
        callWith(f);
        states("not never", 3, 51, 11, 1);
    }

    /** "what it was (at first 2). -1, doing nothing, when n is below 0". */
    private void numbersOfTier() {
        m = new RegisterMachine();
        check.same("at first", m.tier(0), 2);
        check.same("0", m.tier(1), 0);
        check.same("1", m.tier(GREATEST), 1);
        for (int n : new int[] {-1, LEAST}) {
            long[] before = seen();
            check.same("below 0", m.tier(n), -1);
            unchanged("tier", before);
        }
        check.same("the greatest", m.tier(2), GREATEST);
        check.same("back", m.tier(2), 2);
        m = new RegisterMachine();
        int f = whole("plain", 0, 0, 0, END, 0, 0);
        callWith(f);
        states("at first 2: not the first time", 3, 1, 11, 0);
        callWith(f);
        states("the second time", 3, 2, 11, 1);
    }

    /** "this frame and later ones run that (frames that there are go on as they are)". */
    private void framesThatThereAreGoOn() {
        for (int tier = 0; tier <= 6; tier++) {
            for (int piece = 1; piece <= 9; piece += 2) {
                fresh(tier);
                int f = whole("itself", 1, 1, 1, PUT, 3, 0, GET, 0, 0, IF, 1, 1, GET, 0, 0, PUT, 1, 0, SUBTRACT, 0, 0, TEE, 1, 0,
                    CALL, 0, 0, ADD, 0, 0, GET, 1, 0, ADD, 0, 0, END, 0, 0, END, 0, 0);
                callWith(f, 4);
                int all = 0;
                for (int i = 0; i < 60; i++) {
                    all += m.run(piece);
                }
                check.same("steps of all frames", all, 4 * 11 + 3);
                check.same("result", m.result(0), 3 * 5 + 3 + 2 + 1);
                states("counted", 0, 2, 3, 5, 11, tier >= 1 && tier <= 5 ? 1 : 0);
            }
        }
    }

    /** "3 how often the function that the latest call() was for was counted (0 before any)". */
    private void countedInside() {
        fresh(0);
        states("before any", 3, 0);
        int inner = whole("inner", 0, 0, 0, NOTHING, 0, 0, END, 0, 0);
        int outer = whole("outer", 0, 0, 0, CALL, inner, 0, CALL, inner, 0, CALL, inner, 0, END, 0, 0);
        states("before any call", 3, 0);
        callWith(outer);
        states("the call itself", 3, 1);
        m.run(99);
        states("not those of the other", 3, 1);
        callWith(inner);
        states("three and one", 3, 4);
        check.same("a call that is refused", m.call(7), false);
        states("is not the latest", 3, 4);
        callWith(outer);
        states("the second time", 3, 2);
        fresh(3);
        inner = whole("inner", 0, 0, 0, NOTHING, 0, 0, END, 0, 0);
        outer = whole("outer", 0, 0, 0, CALL, inner, 0, CALL, inner, 0, CALL, inner, 0, END, 0, 0);
        callWith(outer);
        m.run(4);
        states("two of them", 11, 0);
        m.run(1);
        states("the third is compiled", 11, 1);
    }

    private void countedByTheTable() {
        fresh(3);
        int inner = whole("inner", 0, 0, 0, NOTHING, 0, 0, END, 0, 0);
        int outer = whole("outer", 0, 0, 0, PUT, 0, 0, CALL_ENTRY, 0, 0, END, 0, 0);
        m.entry(0, inner);
        m.entry(1, inner);
        for (int i = 1; i <= 2; i++) {
            gives("by the table", outer, with(), 3);
            states("not yet", 3, i, 11, 0);
        }
        callWith(inner);
        states("three in all", 3, 3, 11, 1);
    }

    /** "11 how many functions have code for registers". */
    private void functionsWithCodeForRegisters() {
        fresh(1);
        int[] functions = new int[39];
        for (int i = 0; i < 39; i++) {
            functions[i] = whole("constant", 0, 1, 0, PUT, i * 11, 0, END, 0, 0);
        }
        int all = begin(0, 0, 0);
        for (int f : functions) {
            write("each", CALL, f, 0, FORGET, 0, 0);
        }
        write("end", END, 0, 0);
        gives("all of them", all, with(), 39 * 3);
        states("forty", 5, 40, 11, 40);
        for (int i = 0; i < 39; i++) {
            gives("constant", functions[i], with(), 1, i * 11);
        }
        states("forty still", 11, 40);
    }
}
