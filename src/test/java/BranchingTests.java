/**
 * The sentences about steps, labels and branches as they run, with the stack, with registers, and with the
 * change from one to the other; a comment in quotes is the sentence of the document that the test is for.
 */
public final class BranchingTests extends Bench {
    private static final long HIGH = 1L << 32;
    private static final int CALLS = 4;

    public static void main(String[] args) {
        BranchingTests tests = new BranchingTests();
        for (int tier = 0; tier <= 3; tier++) {
            tests.stepsAreInstructions(tier);
            tests.whatIsNoStep(tier);
            tests.waysOfAnIf(tier);
            tests.endOfALoop(tier);
            tests.branchesToEachLabel(tier);
            tests.branchesToLoops(tier);
            tests.branchesOnConditions(tier);
            tests.tablesOfEachSize(tier);
            tests.tablesCarryOperands(tier);
            tests.returnsFromInside(tier);
            tests.deadCodeIsNeverDone(tier);
            tests.deadCodeWithoutOperands(tier);
            tests.stepsAheadOfALoop(tier);
            tests.stepsAheadOfAnEnd(tier);
            tests.localsThatArePutKeepTheirValue(tier);
            tests.globalsAndSelections(tier);
            tests.constantsOnEachWay(tier);
        }
        tests.check.finish();
    }

    /** "Each instruction that is done, or TRAPS, is a STEP". */
    private void stepsAreInstructions(int tier) {
        fresh(tier);
        int f = whole("plain", 1, 1, 1, NOTHING, 0, 0, GET, 0, 0, TEE, 1, 0, FORGET, 0, 0, GET, 1, 0, PUT, 2, 0, PUT, 0, 0,
            SELECT, 0, 0, NOTHING, 0, 0, END, 0, 0);
        for (int i = 0; i < CALLS; i++) {
            callWith(f, 9);
            for (int step = 1; step <= 9; step++) {
                states("goes on", 0, 1, 2, 1, 4, step - 1);
                check.same("one step", m.run(1), 1);
            }
            states("ended with the last", 0, 2, 2, 0, 4, 9);
            check.same("no more", m.run(1), 0);
            check.same("select", m.result(0), 2);
        }
    }

    /** "but 2, 3, 5, 6, 11 are none: they are done with the step (or the call from outside) ahead of them." */
    private void whatIsNoStep(int tier) {
        fresh(tier);
        int none = whole("no step", 0, 0, 0, BLOCK, 0, 0, LOOP, 0, 0, BLOCK, 0, 0, END, 0, 0, END, 0, 0, END, 0, 0, END, 0, 0);
        int caller = whole("calls it", 0, 0, 0, CALL, none, 0, CALL, none, 0, END, 0, 0);
        int chain = whole("calls the caller", 0, 0, 0, LOOP, 0, 0, CALL, caller, 0, END, 0, 0, END, 0, 0);
        int inside = whole("begins with labels", 0, 1, 0, BLOCK, 0, 1, LOOP, 0, 1, PUT, 4, 0, END, 0, 0, END, 0, 0, END, 0, 0);
        int outside = whole("calls that", 0, 1, 0, CALL, inside, 0, END, 0, 0);
        for (int i = 0; i < CALLS; i++) {
            check.same("call", m.call(none), true);
            states("ended by the call", 0, 2, 2, 0, 4, 0);
            check.same("nothing is left", m.run(5), 0);
            callWith(caller);
            check.same("the frame is over with the step", m.run(1), 1);
            states("one frame", 0, 1, 2, 1, 4, 1);
            check.same("the last", m.run(5), 1);
            callWith(chain);
            m.run(1);
            states("two frames", 0, 1, 2, 2);
            m.run(1);
            states("two frames still", 0, 1, 2, 2);
            m.run(1);
            states("both are over with one step", 0, 2, 2, 0, 4, 3);
            callWith(outside);
            m.run(1);
            states("labels of the new frame are begun", 0, 1, 2, 2, 4, 1);
            gives("one step more", outside, with(), 2, 4);
        }
    }

    /** "4 IF (takes one more first)"; "5 ELSE"; "An IF without ELSE". */
    private void waysOfAnIf(int tier) {
        fresh(tier);
        int both = whole("if and else", 1, 3, 0, PUT, 1, 0, PUT, 2, 0, PUT, 3, 0, GET, 0, 0, IF, 2, 2, FORGET, 0, 0, PUT, 7, 0,
            ELSE, 0, 0, NOTHING, 0, 0, ADD, 0, 0, PUT, 8, 0, END, 0, 0, END, 0, 0);
        int one = whole("if alone", 1, 1, 0, PUT, 5, 0, GET, 0, 0, IF, 1, 1, PUT, 1, 0, ADD, 0, 0, END, 0, 0, END, 0, 0);
        int nested = whole("ifs in ifs", 2, 1, 0, GET, 0, 0, IF, 0, 1, GET, 1, 0, IF, 0, 1, PUT, 1, 0, ELSE, 0, 0, PUT, 2, 0,
            END, 0, 0, ELSE, 0, 0, GET, 1, 0, IF, 0, 1, PUT, 3, 0, ELSE, 0, 0, PUT, 4, 0, END, 0, 0, END, 0, 0, END, 0, 0);
        int returning = whole("else behind a dead end", 1, 1, 0, GET, 0, 0, IF, 0, 0, PUT, 6, 0, RETURN, 0, 0, ELSE, 0, 0,
            NOTHING, 0, 0, END, 0, 0, PUT, 9, 0, END, 0, 0);
        for (int i = 0; i < CALLS; i++) {
            gives("if", both, with(1), 7, 1, 2, 7);
            gives("else", both, with(0), 8, 1, 5, 8);
            gives("if is done", one, with(-1), 5, 6);
            gives("if is left out", one, with(0), 3, 5);
            gives("32 bits", one, with(HIGH), 3, 5);
            gives("the highest of 32", one, with(1L << 31), 5, 6);
            for (int k = 0; k < 4; k++) {
                gives("nested " + k, nested, with(1 - k / 2, 1 - k % 2), 5, k + 1);
            }
            gives("returns", returning, with(1), 4, 6);
            gives("else", returning, with(0), 4, 9);
        }
    }

    /** "11 END: .. it is over, and its results are put", a loop's, too. */
    private void endOfALoop(int tier) {
        fresh(tier);
        int f = whole("loop once", 0, 2, 0, PUT, 1, 0, LOOP, 1, 2, PUT, 2, 0, END, 0, 0, END, 0, 0);
        for (int i = 0; i < CALLS; i++) {
            gives("a loop's end is no branch", f, with(), 2, 1, 2);
        }
    }

    /** "Labels are counted from the inside: 0 is the innermost. A branch to a label WANTS its results". */
    private void branchesToEachLabel(int tier) {
        for (int label = 0; label <= 5; label++) {
            fresh(tier);
            int always = branchTo(label, BRANCH, 0);
            int taken = branchTo(label, BRANCH_IF, 1);
            int entry = branchTo(label, TABLE, 0);
            for (int i = 0; i < CALLS; i++) {
                int behind = 5 * (5 - label);
                long added = 32 - (1 << label);
                gives("branch to " + label, always, with(), 8 + behind, 100 * BRANCH + added);
                gives("13 to " + label, taken, with(), 9 + behind, 100 * BRANCH_IF + added);
                gives("entry to " + label, entry, with(), 9 + behind, 100 * TABLE + added);
            }
        }
    }

    /** Five blocks, each with an operand below it that is taken away behind it, where 1 << its number is added. */
    private int branchTo(int label, int op, int condition) {
        int f = begin(0, 1, 0);
        for (int i = 0; i < 5; i++) {
            write("block", PUT, 1000 + i, 0, BLOCK, 0, 1);
        }
        write("operands", PUT, 3, 0, PUT, 100 * op, 0);
        if (op != BRANCH) {
            write("condition", PUT, condition, 0);
        }
        if (op == TABLE) {
            write("table", TABLE, 0, 0, ENTRY, label, 0);
        } else {
            write("branch", op, label, 0, TRAP, 0, 0);
        }
        for (int i = 0; i < 5; i++) {
            write("behind label " + i, END, 0, 0, PUT, 1 << i, 0, ADD, 0, 0, SET_GLOBAL, 0, 0, FORGET, 0, 0, GET_GLOBAL, 0, 0);
        }
        write("end", END, 0, 0);
        return f;
    }

    /** "of a label of a LOOP its parameters". */
    private void branchesToLoops(int tier) {
        fresh(tier);
        int sum = whole("four parameters", 1, 4, 0, PUT, 1, 0, PUT, 2, 0, PUT, 3, 0, GET, 0, 0, LOOP, 4, 4, PUT, 1, 0,
            SUBTRACT, 0, 0, TEE, 0, 0, GET, 0, 0, BRANCH_IF, 0, 0, END, 0, 0, END, 0, 0);
        int outer = whole("from inside a block", 2, 2, 0, PUT, 50, 0, GET, 0, 0, LOOP, 1, 1, BLOCK, 1, 1, SET, 0, 0, PUT, 9, 0,
            PUT, 8, 0, GET, 0, 0, PUT, 1, 0, SUBTRACT, 0, 0, TEE, 0, 0, GET, 0, 0, BRANCH_IF, 1, 0, BRANCH, 0, 0, END, 0, 0,
            END, 0, 0, END, 0, 0);
        int none = whole("no parameters", 1, 0, 1, LOOP, 0, 0, GET, 0, 0, PUT, 1, 0, SUBTRACT, 0, 0, TEE, 0, 0, BRANCH_IF, 0, 0,
            END, 0, 0, END, 0, 0);
        for (int i = 0; i < CALLS; i++) {
            for (int n = 1; n <= 5; n++) {
                gives("carried to the loop", sum, with(n), 4 + 5 * n, 1, 2, 3, 0);
                gives("what is above is left", outer, with(n, 0), 2 + 9 * n + 1, 50, 0);
                gives("nothing is wanted", none, with(n), 5 * n);
            }
        }
    }

    /** "13 likewise, if the one taken first is not 0 (32 bits), puts them again." */
    private void branchesOnConditions(int tier) {
        fresh(tier);
        int f = whole("13", 1, 3, 0, PUT, 5, 0, BLOCK, 0, 2, PUT, 6, 0, PUT, 7, 0, PUT, 8, 0, GET, 0, 0, BRANCH_IF, 0, 0,
            FORGET, 0, 0, PUT, 9, 0, ADD, 0, 0, END, 0, 0, END, 0, 0);
        long[] conditions = {0, HIGH, Long.MIN_VALUE, 1, -1, 1L << 31, HIGH + 1};
        for (int i = 0; i < CALLS; i++) {
            for (long c : conditions) {
                if ((int) c != 0) {
                    gives("13 of " + c, f, with(c), 6, 5, 7, 8);
                } else {
                    gives("13 of " + c, f, with(c), 9, 5, 6, 16);
                }
            }
        }
    }

    /** "it goes to the entry with the number taken (32 bits without sign), or the last one". */
    private void tablesOfEachSize(int tier) {
        for (int branches : new int[] {0, 1, 2, 19, 20}) {
            fresh(tier);
            int f = begin(1, 1, 0);
            for (int i = 0; i <= branches; i++) {
                write("block", BLOCK, 0, 0);
            }
            write("table", GET, 0, 0, TABLE, branches, 0);
            // Entry i goes to the label branches - i, so that no order of the entries but theirs will do.
            for (int i = 0; i <= branches; i++) {
                write("entry", ENTRY, branches - i, 0);
            }
            for (int label = 0; label <= branches; label++) {
                write("behind", END, 0, 0, PUT, 100 + label, 0, RETURN, 0, 0);
            }
            write("end", END, 0, 0);
            long[] numbers = {0, branches - 1, branches, branches + 1, -1, 1L << 31, HIGH, HIGH + 1, Long.MIN_VALUE};
            for (int i = 0; i < CALLS; i++) {
                for (long n : numbers) {
                    long index = Math.min(n & 0xFFFFFFFFL, branches);
                    gives("table of " + branches + ", " + n, f, with(n), 4, 100 + branches - index);
                }
            }
        }
    }

    private void tablesCarryOperands(int tier) {
        fresh(tier);
        int f = whole("two are wanted", 2, 2, 0, PUT, 90, 0, BLOCK, 0, 2, PUT, 91, 0, GET, 1, 0, PUT, 5, 0, LOOP, 2, 2, PUT, 1, 0,
            ADD, 0, 0, PUT, 92, 0, FORGET, 0, 0, GET, 0, 0, GET, 0, 0, PUT, 1, 0, ADD, 0, 0, SET, 0, 0, TABLE, 2, 0, ENTRY, 0, 0,
            ENTRY, 1, 0, ENTRY, 2, 0, END, 0, 0, RETURN, 0, 0, END, 0, 0, ADD, 0, 0, END, 0, 0);
        for (int i = 0; i < CALLS; i++) {
            gives("again, then behind the block", f, with(0, 7), 4 + 10 + 10 + 1, 90, 7 + 5 + 2);
            gives("behind the block", f, with(1, 7), 4 + 10 + 1, 90, 7 + 5 + 1);
            gives("the last, the function's label", f, with(2, 7), 4 + 10, 7, 6);
            gives("beyond it", f, with(77, 7), 4 + 10, 7, 6);
        }
        fresh(tier);
        int g = whole("a local and a constant", 2, 3, 0, PUT, 1, 0, BLOCK, 0, 2, PUT, 2, 0, GET, 1, 0, PUT, 3, 0, GET, 0, 0,
            TABLE, 1, 0, ENTRY, 0, 0, ENTRY, 0, 0, END, 0, 0, END, 0, 0);
        for (int i = 0; i < CALLS; i++) {
            gives("a local and a constant", g, with(i, 50 + i), 6, 1, 50 + i, 3);
        }
    }

    /** "15 RETURN: like a branch to the outermost label." */
    private void returnsFromInside(int tier) {
        fresh(tier);
        int f = whole("return", 0, 2, 0, PUT, 1, 0, BLOCK, 1, 1, LOOP, 1, 1, PUT, 2, 0, PUT, 3, 0, RETURN, 0, 0, END, 0, 0,
            END, 0, 0, PUT, 9, 0, END, 0, 0);
        int caller = whole("goes on behind it", 0, 3, 0, PUT, 7, 0, CALL, f, 0, END, 0, 0);
        for (int i = 0; i < CALLS; i++) {
            gives("return", f, with(), 4, 2, 3);
            gives("to its caller", caller, with(), 6, 7, 2, 3);
        }
    }

    /** "behind an instruction that never goes on, DEAD". */
    private void deadCodeIsNeverDone(int tier) {
        int[][] ways = {{BRANCH, 0, 0}, {BRANCH, 1, 0}, {PUT, 0, 0, TABLE, 0, 0, ENTRY, 0, 0}, {RETURN, 0, 0}};
        for (int[] way : ways) {
            fresh(tier);
            int f = begin(0, 1, 1);
            write("block", PUT, 4, 0, BLOCK, 1, 1, NOTHING, 0, 0);
            write("never goes on", way);
            write("dead", PUT, 1, 0, SET_GLOBAL, 0, 0, BLOCK, 2, 2, LOOP, 0, 0, BRANCH, 0, 0, END, 0, 0, BLOCK, 0, 0, TRAP, 0, 0,
                END, 0, 0, ADD, 0, 0, PUT, 3, 0, IF, 1, 1, ELSE, 0, 0, TRAP, 0, 0, PUT, 1, 0, END, 0, 0, BRANCH, 1, 0,
                END, 0, 0, FORGET, 0, 0, BLOCK, 0, 0, END, 0, 0);
            write("ends", END, 0, 0, END, 0, 0);
            int steps = way.length == 9 ? 4 : 3;
            for (int i = 0; i < CALLS; i++) {
                gives("dead code", f, with(), steps, 4);
                check.same("nothing of it was done", m.global(0), 0);
            }
        }
    }

    /** "In a DEAD label there are as many operands as are asked for": so it is whole, runs, and is compiled. */
    private void deadCodeWithoutOperands(int tier) {
        int[][] ways = {{TRAP, 0, 0}, {BRANCH, 0, 0}, {BRANCH, 1, 0}, {PUT, 0, 0, TABLE, 0, 0, ENTRY, 0, 0}, {RETURN, 0, 0}};
        for (int[] way : ways) {
            fresh(tier);
            int eight = begin(8, 8, 0);
            write("eight", TRAP, 0, 0, CALL, eight, 0, END, 0, 0);
            int f = begin(1, 1, 0);
            write("block", GET, 0, 0, BLOCK, 1, 1);
            write("never goes on", way);
            write("calls", CALL, eight, 0, CALL, eight, 0, FORGET, 0, 0, CALL_ENTRY, 8, 0, CALL_ENTRY, 8, 8, RETURN, 0, 0);
            write("takes", SELECT, 0, 0, STORE, 0, 0, SET, 0, 0, TEE, 0, 0, STORE, 0, 0, SET_GLOBAL, 0, 0, BRANCH_IF, 1, 0);
            write("labels", BLOCK, 4, 4, END, 0, 0, CALL, eight, 0, LOOP, 4, 0, BRANCH, 0, 0, SELECT, 0, 0, FORGET, 0, 0, END, 0, 0,
                TABLE, 1, 0, ENTRY, 0, 0, ENTRY, 1, 0, IF, 4, 4, BRANCH, 0, 0, ELSE, 0, 0, END, 0, 0, BRANCH, 0, 0);
            write("ends", END, 0, 0, END, 0, 0);
            for (int i = 0; i < CALLS; i++) {
                int steps = way.length == 9 ? 3 : 2;
                if (way[0] == TRAP) {
                    traps("ahead of dead code", f, with(i), steps, 1);
                } else {
                    gives("ahead of dead code", f, with(i), steps, i);
                }
                traps("only a trap", eight, with(1, 2, 3, 4, 5, 6, 7, 8), 1, 1);
            }
        }
    }

    /** A branch to a loop does again what is in it, and not what is ahead of it. */
    private void stepsAheadOfALoop(int tier) {
        for (int ahead = 0; ahead <= 3; ahead++) {
            fresh(tier);
            int f = begin(1, 1, 0);
            write("a constant ahead", PUT, 70, 0);
            write("ahead", ahead, NOTHING);
            write("loop", LOOP, 0, 0, GET, 0, 0, PUT, 1, 0, SUBTRACT, 0, 0, TEE, 0, 0, BRANCH_IF, 0, 0, END, 0, 0, END, 0, 0);
            for (int i = 0; i < CALLS; i++) {
                for (int n = 1; n <= 4; n++) {
                    gives("loop of " + n, f, with(n), 1 + ahead + 5 * n, 70);
                }
            }
        }
    }

    /** What is ahead of an END is done on its own way only. */
    private void stepsAheadOfAnEnd(int tier) {
        for (int ahead = 0; ahead <= 3; ahead++) {
            fresh(tier);
            int f = begin(1, 0, 0);
            write("block", BLOCK, 0, 0, GET, 0, 0, BRANCH_IF, 0, 0);
            write("ahead", ahead, NOTHING);
            write("end", END, 0, 0, NOTHING, 0, 0, END, 0, 0);
            int g = begin(1, 0, 0);
            write("if", GET, 0, 0, IF, 0, 0);
            write("ahead", ahead, NOTHING);
            write("else", ELSE, 0, 0, NOTHING, 0, 0);
            write("ahead", ahead, NOTHING);
            write("end", END, 0, 0, NOTHING, 0, 0, END, 0, 0);
            for (int i = 0; i < CALLS; i++) {
                gives("past it", f, with(1), 3);
                gives("through it", f, with(0), 3 + ahead);
                gives("if", g, with(1), 3 + ahead);
                gives("else", g, with(0), 4 + ahead);
            }
        }
    }

    /** "32 puts local a, 33 takes it, 34 takes it and puts it again". */
    private void localsThatArePutKeepTheirValue(int tier) {
        fresh(tier);
        int f = whole("old values", 2, 6, 0, GET, 0, 0, GET, 1, 0, GET, 0, 0, PUT, 5, 0, TEE, 0, 0, GET, 0, 0, GET, 1, 0, SET, 0, 0,
            GET, 0, 0, NOTHING, 0, 0, PUT, 6, 0, SET, 1, 0, END, 0, 0);
        int swap = whole("two locals change places", 2, 2, 0, GET, 0, 0, GET, 1, 0, SET, 0, 0, SET, 1, 0, GET, 0, 0, GET, 1, 0,
            END, 0, 0);
        int tee = whole("34 of itself", 1, 2, 1, GET, 0, 0, TEE, 0, 0, TEE, 1, 0, PUT, 3, 0, SET, 0, 0, GET, 1, 0, END, 0, 0);
        for (int i = 0; i < CALLS; i++) {
            gives("kept", f, with(1, 2), 12, 1, 2, 1, 5, 5, 2);
            gives("swapped", swap, with(-8, HIGH), 6, HIGH, -8);
            gives("all 64 bits", tee, with(HIGH + 4), 6, HIGH + 4, HIGH + 4);
        }
    }

    /** "35, 36 the same as 32, 33 with global a"; "27 takes c, y, x, puts x if c (32 bits) is not 0, else y". */
    private void globalsAndSelections(int tier) {
        fresh(tier);
        int f = whole("globals", 2, 4, 0, PUT, 1, 0, GET_GLOBAL, 7, 0, GET_GLOBAL, 0, 0, GET, 0, 0, SET_GLOBAL, 7, 0, GET, 1, 0,
            SET_GLOBAL, 0, 0, GET_GLOBAL, 7, 0, END, 0, 0);
        int select = whole("select", 3, 3, 0, PUT, 1, 0, GET, 0, 0, GET, 1, 0, GET, 2, 0, SELECT, 0, 0, PUT, 2, 0, END, 0, 0);
        long seven = 0;
        long zero = 0;
        for (int i = 1; i <= CALLS; i++) {
            gives("globals", f, with(i * HIGH, -i), 8, 1, seven, zero, i * HIGH);
            seven = i * HIGH;
            zero = -i;
            check.same("global 7", m.global(7), seven);
            check.same("global 0", m.global(0), zero);
            check.same("another", m.global(1), 0);
            gives("x", select, with(-3, -4, 1), 6, 1, -3, 2);
            gives("y", select, with(-3, -4, 0), 6, 1, -4, 2);
            gives("32 bits", select, with(-3, -4, HIGH), 6, 1, -4, 2);
        }
    }

    /** Constants and locals that were put on one way are there on each way that meets it. */
    private void constantsOnEachWay(int tier) {
        fresh(tier);
        int f = whole("three ways", 1, 2, 0, PUT, 1, 0, BLOCK, 0, 1, BLOCK, 0, 0, GET, 0, 0, IF, 0, 0, PUT, 5, 0, BRANCH, 2, 0,
            END, 0, 0, GET, 0, 0, IS_ZERO, 0, 0, BRANCH_IF, 0, 0, TRAP, 0, 0, END, 0, 0, GET, 0, 0, PUT, 6, 0, SET, 0, 0, END, 0, 0,
            END, 0, 0);
        for (int i = 0; i < CALLS; i++) {
            gives("a constant", f, with(3), 5, 1, 5);
            gives("a local that was set then", f, with(HIGH), 9, 1, HIGH);
        }
    }
}
