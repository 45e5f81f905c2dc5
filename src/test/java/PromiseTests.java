/** Each promise by itself: ordinary inputs, the edges that the document names, and wrong inputs. */
public final class PromiseTests extends Bench {
    public static void main(String[] args) {
        PromiseTests tests = new PromiseTests();
        tests.newObject();
        tests.functions();
        tests.codeOutside();
        tests.codeOfLabels();
        tests.codeOfElse();
        tests.codeOfDeadLabels();
        tests.codeOfBranches();
        tests.codeOfTables();
        tests.codeOfCallsAndVariables();
        tests.codeLimit();
        tests.unknownOperations();
        tests.drops();
        tests.entries();
        tests.arguments();
        tests.calls();
        tests.callsThatExhaust();
        for (int tier = 0; tier <= 2; tier++) {
            tests.pieces(tier);
            tests.stepsOfStructure(tier);
            tests.branchesCarryOperands(tier);
            tests.tableRuns(tier);
            tests.indirectCalls(tier);
            tests.exhaustsByFrames(tier);
            tests.exhaustsByValues(tier);
            tests.deadEndsAskForNothing(tier);
            tests.keepsWhatALocalWas(tier);
        }
        tests.states();
        tests.tiers();
        tests.framesGoOnAsTheyAre();
        tests.results();
        tests.globalsAndMemory();
        tests.looks();
        tests.looksAtDeadLabels();
        tests.check.finish();
    }

    private void newObject() {
        m = new RegisterMachine();
        for (int what = 0; what <= 11; what++) {
            check.same("new: state(" + what + ")", m.state(what), what == 10 ? 1 : 0);
        }
        for (int k = -2; k <= 9; k++) {
            check.same("new: global", m.global(k), 0);
            check.same("new: result", m.result(k), 0);
            check.same("new: look", m.look(0, k), -1);
        }
        for (int address = 0; address < 64; address++) {
            check.same("new: memory", m.memory(address), 0);
        }
        check.same("new: run", m.run(10), 0);
        check.same("new: call", m.call(0), false);
        check.same("new: drop", m.drop(), false);
        check.same("new: tier", m.tier(2), 2);
        m.function(0, 0, 0);
        write("new table", PUT, 0, 0, CALL_ENTRY, 0, 0, END, 0, 0);
        m.call(0);
        m.run(5);
        states("new table is empty", 0, 3, 1, 7);
    }

    private void functions() {
        m = new RegisterMachine();
        int[][] wrong = {{-1, 0, 0}, {9, 0, 0}, {0, -1, 0}, {0, 9, 0}, {0, 0, -1}, {0, 0, 9},
            {Integer.MIN_VALUE, 0, 0}, {0, Integer.MAX_VALUE, 0}};
        for (int[] n : wrong) {
            check.same("function of wrong numbers", m.function(n[0], n[1], n[2]), -1);
        }
        states("after wrong ones", 5, 0, 7, 0);
        check.same("function of most", m.function(8, 8, 8), 0);
        check.same("function while one is written", m.function(0, 0, 0), -1);
        states("one is written", 5, 1, 7, 1, 8, 0, 9, 0);
        m.drop();
        for (int i = 0; i < 40; i++) {
            check.same("function", m.function(0, 0, 0), i);
            write("function", END, 0, 0);
        }
        check.same("function 41", m.function(0, 0, 0), -1);
        states("forty", 5, 40, 6, 40, 7, 0);
        m = new RegisterMachine();
        for (int i = 0; i < 39; i++) {
            m.function(0, 0, 0);
            write("function", END, 0, 0);
        }
        check.same("the fortieth", m.function(0, 0, 0), 39);
        m.drop();
        check.same("the fortieth again", m.function(0, 0, 0), 39);
    }

    private void codeOutside() {
        m = new RegisterMachine();
        check.same("code when none is written", m.code(NOTHING, 0, 0), -1);
        m.function(0, 0, 0);
        check.same("first", m.code(NOTHING, 0, 0), 1);
        check.same("end", m.code(END, 0, 0), 2);
        check.same("behind the end", m.code(NOTHING, 0, 0), -1);
        m.function(0, 0, 0);
        check.same("counted in all", m.code(END, 9, -9), 3);
    }

    private void codeOfLabels() {
        m = new RegisterMachine();
        m.function(0, 1, 0);
        refuse("END without its result", END, 0, 0);
        refuse("IF without a condition", IF, 0, 0);
        refuse("BLOCK with a parameter that is not there", BLOCK, 1, 0);
        for (int op = BLOCK; op <= IF; op++) {
            refuse("below 0 parameters", op, -1, 0);
            refuse("below 0 results", op, 0, -1);
            refuse("5 results", op, 0, 5);
        }
        write("five operands", PUT, 1, 0, PUT, 2, 0, PUT, 3, 0, PUT, 4, 0, PUT, 5, 0);
        refuse("5 parameters", BLOCK, 5, 0);
        refuse("IF with a condition and 5", IF, 5, 0);
        write("block", BLOCK, 4, 1);
        states("in the block", 7, 2, 8, 4, 9, 0);
        write("takes its own", ADD, 0, 0, ADD, 0, 0, ADD, 0, 0);
        refuse("what is below the height is not there", ADD, 0, 0);
        states("in the block", 8, 1);
        write("end", END, 0, 0);
        states("behind it", 7, 1, 8, 2);
        refuse("END with one too many", END, 0, 0);
        write("loop", LOOP, 1, 0, FORGET, 0, 0, END, 0, 0);
        states("behind the loop", 7, 1, 8, 1);
        write("if", PUT, 1, 0, IF, 1, 1);
        states("in the if", 7, 2, 8, 1);
        write("end of both", END, 0, 0, END, 0, 0);
        states("no function", 7, 0, 8, 0, 9, 0);
        check.same("most operands", m.look(0, 3), 5);
    }

    private void codeOfElse() {
        m = new RegisterMachine();
        m.function(0, 0, 0);
        refuse("ELSE of the function", ELSE, 0, 0);
        write("block", BLOCK, 0, 0);
        refuse("ELSE of a block", ELSE, 0, 0);
        write("loop", LOOP, 0, 0);
        refuse("ELSE of a loop", ELSE, 0, 0);
        write("if", PUT, 7, 0, PUT, 1, 0, IF, 1, 2);
        states("in the if", 7, 4, 8, 1);
        refuse("ELSE without the results", ELSE, 0, 0);
        write("second", PUT, 2, 0);
        refuse("END of an IF that needs an ELSE", END, 0, 0);
        write("third", PUT, 2, 0);
        refuse("ELSE with one too many", ELSE, 0, 0);
        write("else", FORGET, 0, 0, ELSE, 0, 0);
        states("as at its beginning", 7, 4, 8, 1, 9, 0);
        write("trap", TRAP, 0, 0);
        refuse("a second ELSE", ELSE, 0, 0);
        write("end", END, 0, 0);
        states("results are put", 7, 3, 8, 2, 9, 0);
        write("dead then", FORGET, 0, 0, IF, 0, 3, TRAP, 0, 0, PUT, 1, 0);
        states("dead then", 8, 1, 9, 1);
        write("else behind a dead one", ELSE, 0, 0);
        states("open again", 8, 0, 9, 0);
        refuse("END without the results", END, 0, 0);
    }

    private void codeOfDeadLabels() {
        m = new RegisterMachine();
        m.function(0, 2, 1);
        write("gone", PUT, 1, 0, PUT, 2, 0, PUT, 3, 0, TRAP, 0, 0);
        states("operands are gone", 8, 0, 9, 1);
        write("asked for", ADD, 0, 0);
        states("asked for", 8, 1, 9, 1);
        write("tee", FORGET, 0, 0, TEE, 0, 0);
        states("tee puts it", 8, 1);
        write("too many", PUT, 1, 0, PUT, 1, 0);
        refuse("more than the results", END, 0, 0);
        write("block in a dead label", FORGET, 0, 0, FORGET, 0, 0, BLOCK, 4, 1);
        states("it is open", 7, 2, 8, 4, 9, 0);
        write("drop four", FORGET, 0, 0, FORGET, 0, 0, FORGET, 0, 0, FORGET, 0, 0);
        refuse("in an open one nothing is asked for", FORGET, 0, 0);
        write("branch", TRAP, 0, 0, END, 0, 0);
        states("the outer one is still dead", 7, 1, 8, 1, 9, 1);
        write("branch if puts what is wanted", FORGET, 0, 0, BRANCH_IF, 0, 0);
        states("two are wanted", 8, 2, 9, 1);
        refuse("a wrong label stays wrong", BRANCH, 1, 0);
        refuse("a wrong local stays wrong", GET, 1, 0);
        write("end", END, 0, 0);
        check.same("most", m.look(0, 3), 4);
        m.function(0, 0, 0);
        write("block that dies", BLOCK, 0, 3, TRAP, 0, 0);
        states("dead", 8, 0, 9, 1);
        write("its end", END, 0, 0);
        states("open, with its results", 7, 1, 8, 3, 9, 0);
    }

    private void codeOfBranches() {
        m = new RegisterMachine();
        m.function(0, 1, 0);
        for (int op = BRANCH; op <= BRANCH_IF; op++) {
            refuse("without what is wanted", op, 0, 0);
            refuse("no such label", op, 1, 0);
            refuse("no such label", op, -1, 0);
        }
        refuse("RETURN without its result", RETURN, 0, 0);
        write("one", PUT, 1, 0);
        refuse("a condition and nothing for the label", BRANCH_IF, 0, 0);
        write("two", PUT, 1, 0, BRANCH_IF, 0, 0);
        states("put again", 8, 1, 9, 0);
        write("loop wants its parameters", PUT, 2, 0, LOOP, 2, 0, PUT, 1, 0, BRANCH_IF, 0, 0);
        states("two are still there", 8, 2);
        write("loop's branch", BRANCH, 0, 0);
        states("dead", 8, 0, 9, 1);
        write("end", END, 0, 0, BLOCK, 0, 0);
        refuse("what is below the height is not for the function", BRANCH, 1, 0);
        refuse("nor for RETURN", RETURN, 77, 77);
        write("return", PUT, 1, 0, RETURN, 77, 77);
        states("dead", 7, 2, 8, 0, 9, 1);
    }

    private void codeOfTables() {
        m = new RegisterMachine();
        m.function(0, 1, 0);
        refuse("an ENTRY without a TABLE", ENTRY, 0, 0);
        refuse("TABLE without a number", TABLE, 0, 0);
        write("number", PUT, 1, 0);
        refuse("TABLE of 21", TABLE, 21, 0);
        refuse("TABLE of -1", TABLE, -1, 0);
        write("labels", BLOCK, 0, 1, LOOP, 0, 0, PUT, 1, 0, PUT, 1, 0, TABLE, 2, 0);
        states("behind TABLE", 8, 1, 9, 0);
        refuse("no ENTRY", NOTHING, 0, 0);
        refuse("no ENTRY", END, 0, 0);
        refuse("no such label", ENTRY, 3, 0);
        refuse("no such label", ENTRY, -1, 0);
        write("first entry", ENTRY, 1, 0);
        refuse("another number is wanted", ENTRY, 0, 0);
        write("others", ENTRY, 2, 0, ENTRY, 1, 0);
        states("dead", 7, 3, 8, 0, 9, 1);
        refuse("an ENTRY too many", ENTRY, 1, 0);
        m.drop();
        m.function(0, 1, 0);
        write("no result there", PUT, 0, 0, TABLE, 0, 0);
        refuse("what the label wants is not there", ENTRY, 0, 0);
        check.same("drop in a table", m.drop(), true);
        m.function(0, 0, 0);
        write("not asked for entries", NOTHING, 0, 0, PUT, 0, 0, TABLE, 20, 0);
        for (int i = 0; i < 21; i++) {
            states("open until the last entry", 9, 0);
            write("entry", ENTRY, 0, 0);
        }
        states("dead", 9, 1);
    }

    private void codeOfCallsAndVariables() {
        m = new RegisterMachine();
        m.function(2, 3, 1);
        refuse("no such function", CALL, 1, 0);
        refuse("no such function", CALL, -1, 0);
        refuse("no parameters", CALL, 0, 0);
        write("two", PUT, 1, 0, PUT, 2, 0, CALL, 0, 0);
        states("three results", 8, 3);
        refuse("9 parameters", CALL_ENTRY, 9, 0);
        refuse("9 results", CALL_ENTRY, 0, 9);
        refuse("-1 parameters", CALL_ENTRY, -1, 0);
        refuse("-1 results", CALL_ENTRY, 0, -1);
        refuse("an index is asked for, too", CALL_ENTRY, 3, 0);
        write("by the table", CALL_ENTRY, 2, 8);
        states("eight results", 8, 8);
        for (int op = GET; op <= TEE; op++) {
            refuse("no such local", op, 3, 0);
            refuse("no such local", op, -1, 0);
            write("the last local", op, 2, 0);
        }
        for (int op = 35; op <= SET_GLOBAL; op++) {
            refuse("no such global", op, 8, 0);
            refuse("no such global", op, -1, 0);
            write("the last global", op, 7, 0);
        }
        states("eight again", 8, 8);
        m.drop();
        m.function(0, 0, 8);
        for (int op : new int[] {FORGET, 27, SET, TEE, SET_GLOBAL, GROW, 40, 53, 54, 62, 69, 70, ADD, 173}) {
            refuse("no operands", op, 0, 0);
        }
        write("one", PUT, 0, 0);
        for (int op : new int[] {27, 54, 62, 70, 73, 81, 83, ADD, 110, 113, 116, 126}) {
            refuse("one operand", op, 0, 0);
        }
        write("two", PUT, 0, 0);
        refuse("two operands", 27, 0, 0);
    }

    private void codeLimit() {
        m = new RegisterMachine();
        m.function(0, 0, 0);
        for (int i = 1; i <= 1499; i++) {
            check.same("instruction", m.code(i < 700 ? BLOCK : NOTHING, 0, 0), i);
        }
        check.same("1500", m.code(NOTHING, 0, 0), 1500);
        check.same("1501", m.code(NOTHING, 0, 0), -1);
        states("full", 6, 1500, 7, 700);
        check.same("drop", m.drop(), true);
        states("empty", 5, 0, 6, 0, 7, 0);
        m.tier(1);
        m.function(0, 0, 1);
        for (int i = 0; i < 749; i++) {
            m.code(PUT, i, 0);
            m.code(SET, 0, 0);
        }
        m.code(NOTHING, 0, 0);
        check.same("the last one ends", m.code(END, 0, 0), 1500);
        check.same("a long function", callWith(0), true);
        check.same("its steps", m.run(2000), 1499);
        check.same("one more function", m.function(0, 0, 0), 1);
        check.same("has no room", m.code(END, 0, 0), -1);
    }

    private void unknownOperations() {
        boolean[] known = new boolean[300];
        int[] ranges = {0, 6, 11, 17, 26, 27, 32, 36, 40, 66, 69, 73, 80, 81, 83, 83, 106, 108, 110, 110, 113, 113,
            116, 116, 124, 126, 167, 167, 173, 173};
        for (int i = 0; i < ranges.length; i += 2) {
            for (int op = ranges[i]; op <= ranges[i + 1]; op++) {
                known[op] = true;
            }
        }
        for (int op = -300; op < 300; op++) {
            m = new RegisterMachine();
            m.function(1, 0, 0);
            write("four", PUT, 0, 0, PUT, 0, 0, PUT, 0, 0, PUT, 0, 0);
            boolean lacks = op == ELSE || op == ENTRY || op == END;
            check.same("operation " + op, m.code(op, 0, 0), op >= 0 && known[op] && !lacks ? 5 : -1);
        }
        check.same("operation", m.code(Integer.MIN_VALUE, 0, 0), -1);
        check.same("operation", m.code(Integer.MAX_VALUE, 0, 0), -1);
    }

    private void drops() {
        m = new RegisterMachine();
        m.function(0, 0, 0);
        write("whole", NOTHING, 0, 0, END, 0, 0);
        check.same("none is written", m.drop(), false);
        m.function(3, 0, 0);
        write("part", BLOCK, 0, 0, PUT, 1, 0, TRAP, 0, 0);
        check.same("drop", m.drop(), true);
        states("gone", 5, 1, 6, 2, 7, 0, 8, 0, 9, 0);
        check.same("again", m.drop(), false);
        check.same("its number is free", m.function(0, 1, 0), 1);
        states("new", 7, 1, 8, 0, 9, 0);
        check.same("behind the whole one", m.code(PUT, 4, 0), 3);
        write("end", END, 0, 0);
        callWith(1);
        m.run(9);
        check.same("it runs", m.result(0), 4);
    }

    private void entries() {
        m = new RegisterMachine();
        m.function(0, 0, 0);
        check.same("one that is written", m.entry(0, 0), false);
        write("end", END, 0, 0);
        check.same("whole", m.entry(0, 0), true);
        check.same("last entry", m.entry(29, 0), true);
        check.same("beyond", m.entry(30, 0), false);
        check.same("below", m.entry(-1, 0), false);
        check.same("no such function", m.entry(0, 1), false);
        check.same("-2", m.entry(0, -2), false);
        check.same("none", m.entry(5, -1), true);
        check.same("none beyond", m.entry(30, -1), false);
        m.function(1, 0, 0);
        write("by the table", GET, 0, 0, CALL_ENTRY, 0, 0, END, 0, 0);
        callWith(1, 29);
        check.same("runs entry 29", m.run(9), 2);
        states("ended", 0, 2);
        callWith(1, 0);
        m.run(1);
        m.entry(0, -1);
        m.run(1);
        states("taken away while it runs", 0, 3, 1, 7);
    }

    private void arguments() {
        m = new RegisterMachine();
        for (int i = 1; i <= 8; i++) {
            check.same("argument", m.argument(i), i);
        }
        check.same("the ninth", m.argument(9), -1);
        m.function(8, 8, 0);
        for (int i = 0; i < 8; i++) {
            write("get", GET, 7 - i, 0);
        }
        write("end", END, 0, 0);
        check.same("call", m.call(0), true);
        m.run(8);
        for (int i = 0; i < 8; i++) {
            check.same("result", m.result(i), 8 - i);
        }
        check.same("they are gone", m.argument(Long.MIN_VALUE), 1);
    }

    private void calls() {
        m = new RegisterMachine();
        m.function(1, 1, 1);
        check.same("not whole", callWith(0, 5), false);
        write("adds its locals", GET, 0, 0, GET, 1, 0, 124, 0, 0, TEE, 1, 0, END, 0, 0);
        check.same("no such", m.call(1), false);
        check.same("no such", m.call(-1), false);
        check.same("kept arguments", m.call(0), true);
        check.same("without arguments", m.call(0), false);
        states("still goes on", 0, 1, 2, 1, 3, 1, 4, 0);
        m.run(2);
        check.same("two arguments", callWith(0, 7, 8), false);
        states("still goes on", 0, 1, 4, 2);
        m.run(9);
        check.same("its result", m.result(0), 5);
        m.function(2, 0, 0);
        write("end", END, 0, 0);
        check.same("takes both", m.call(1), true);
        states("ended at once", 0, 2, 2, 0, 3, 1, 4, 0);
        check.same("no result", m.result(0), 0);
        callWith(0, -9);
        m.run(1);
        callWith(0, 6);
        states("the other is given up", 0, 1, 2, 1, 4, 0);
        m.run(99);
        check.same("locals are 0 at first", m.result(0), 6);
        m.function(0, 1, 0);
        write("labels only", BLOCK, 0, 0, LOOP, 0, 0, END, 0, 0, END, 0, 0, PUT, 3, 0, END, 0, 0);
        m.call(2);
        states("no step yet", 0, 1, 4, 0);
        check.same("one step", m.run(9), 1);
    }

    /** A function that asks for so many operands, and never uses them. */
    private int asking(int parameters, int operands) {
        int eight = m.function(0, 8, 0);
        for (int i = 0; i < 8; i++) {
            m.code(PUT, i, 0);
        }
        m.code(END, 0, 0);
        int asks = m.function(parameters, 0, 0);
        write("goes on", BLOCK, 0, 0, BRANCH, 0, 0);
        for (int i = 0; i < operands / 8; i++) {
            m.code(CALL, eight, 0);
        }
        for (int i = 0; i < operands % 8; i++) {
            m.code(PUT, i, 0);
        }
        write("end", TRAP, 0, 0, END, 0, 0, END, 0, 0);
        check.same("it asks", m.look(asks, 3), operands);
        return asks;
    }

    private void callsThatExhaust() {
        fresh(1);
        int fits = asking(0, 220);
        int fitsToo = asking(8, 212);
        int tooMuch = asking(0, 221);
        int tooMuchToo = asking(8, 213);
        callWith(fits);
        states("220 fit", 0, 1, 2, 1, 3, 1, 11, 1);
        check.same("one branch", m.run(9), 1);
        callWith(fitsToo, 1, 2, 3, 4, 5, 6, 7, 8);
        states("locals and operands", 0, 1, 3, 1, 11, 2);
        check.same("221", callWith(tooMuch), true);
        states("exhausted at once", 0, 4, 1, 0, 2, 0, 3, 0, 4, 0, 11, 2);
        check.same("nothing to run", m.run(5), 0);
        check.same("221 with arguments", callWith(tooMuchToo, 1, 2, 3, 4, 5, 6, 7, 8), true);
        states("exhausted at once", 0, 4, 3, 0, 4, 0, 11, 2);
        check.same("arguments are gone", m.argument(1), 1);
    }

    private void pieces(int tier) {
        fresh(tier);
        m.function(1, 1, 1);
        write("sum", BLOCK, 0, 0, LOOP, 0, 0, GET, 0, 0, 69, 0, 0, BRANCH_IF, 1, 0, GET, 1, 0, GET, 0, 0, ADD, 0, 0,
            SET, 1, 0, GET, 1, 0, SET_GLOBAL, 2, 0, GET, 0, 0, PUT, 1, 0, 107, 0, 0, SET, 0, 0, BRANCH, 0, 0,
            END, 0, 0, END, 0, 0, GET, 1, 0, END, 0, 0);
        check.same("too many", m.run(2001), -1);
        check.same("below 0", m.run(-1), -1);
        check.same("nothing called", m.run(2000), 0);
        for (int piece = 1; piece <= 40; piece++) {
            callWith(0, 6);
            int all = 0;
            for (int i = 0; i < 100; i++) {
                check.same("0 steps", m.run(0), 0);
                int due = Math.min(piece, 6 * 14 + 4 - all);
                all += due;
                check.same("a piece of " + piece, m.run(piece), due);
                states("steps", 4, all, 0, all < 88 ? 1 : 2);
                check.same("global after " + all, m.global(2), sumAfter(all, piece == 1 ? 0 : 21));
            }
            check.same("result", m.result(0), 21);
        }
        check.same("below 0 still", m.run(-1), -1);
    }

    /** Step 9 of each round of 14 sets the global; before the first of them it is as it was. */
    private static long sumAfter(int steps, long before) {
        long sum = 0;
        for (int round = 0; round < 6 && steps >= 14 * round + 9; round++) {
            sum += 6 - round;
        }
        return sum == 0 ? before : sum;
    }

    private void stepsOfStructure(int tier) {
        fresh(tier);
        m.function(1, 1, 0);
        write("if", BLOCK, 0, 1, GET, 0, 0, IF, 0, 1, NOTHING, 0, 0, PUT, 10, 0, ELSE, 0, 0, PUT, 20, 0, END, 0, 0,
            END, 0, 0, END, 0, 0);
        for (int i = 0; i < 3; i++) {
            callWith(0, 1);
            states("no step", 4, 0);
            check.same("then", m.run(9), 4);
            check.same("then", m.result(0), 10);
            callWith(0, 0x100000000L);
            check.same("32 bits are looked at", m.run(9), 3);
            check.same("else", m.result(0), 20);
        }
        m.function(0, 1, 0);
        write("caller", PUT, 1, 0, CALL, 0, 0, END, 0, 0);
        m.function(0, 1, 0);
        write("caller of it", CALL, 1, 0, END, 0, 0);
        for (int i = 0; i < 3; i++) {
            callWith(2);
            m.run(3);
            states("three frames", 0, 1, 2, 3);
            m.run(3);
            states("three frames still", 0, 1, 2, 3);
            check.same("the last step", m.run(1), 1);
            states("all are over with it", 0, 2, 2, 0, 4, 7);
            check.same("result", m.result(0), 10);
        }
        m.function(0, 0, 0);
        write("trap", NOTHING, 0, 0, TRAP, 0, 0, END, 0, 0);
        for (int i = 0; i < 3; i++) {
            callWith(3);
            check.same("a trap is a step", m.run(9), 2);
            states("trapped", 0, 3, 1, 1, 2, 0, 4, 2);
            check.same("it has stopped", m.run(9), 0);
        }
    }

    private void branchesCarryOperands(int tier) {
        fresh(tier);
        m.function(1, 2, 0);
        write("outer", PUT, 100, 0, BLOCK, 0, 1, PUT, 1, 0, PUT, 2, 0, PUT, 3, 0, GET, 0, 0, BRANCH_IF, 0, 0,
            FORGET, 0, 0, BRANCH, 0, 0, END, 0, 0, END, 0, 0);
        m.function(1, 3, 0);
        write("function's label", PUT, 9, 0, PUT, 1, 0, PUT, 2, 0, PUT, 3, 0, GET, 0, 0, BRANCH_IF, 0, 0,
            FORGET, 0, 0, RETURN, 0, 0, END, 0, 0);
        m.function(2, 1, 0);
        write("loop with parameters", PUT, 50, 0, PUT, 1, 0, GET, 0, 0, LOOP, 2, 1, SET, 0, 0, GET, 0, 0, 108, 0, 0,
            GET, 0, 0, PUT, 1, 0, 107, 0, 0, TEE, 0, 0, GET, 0, 0, BRANCH_IF, 0, 0, FORGET, 0, 0, END, 0, 0,
            ADD, 0, 0, END, 0, 0);
        for (int i = 0; i < 3; i++) {
            callWith(0, 1);
            m.run(99);
            check.same("below", m.result(0), 100);
            check.same("carried", m.result(1), 3);
            callWith(0, 0);
            m.run(99);
            check.same("carried", m.result(1), 2);
            callWith(1, 7);
            m.run(99);
            check.same("taken", m.result(0) * 100 + m.result(1) * 10 + m.result(2), 123);
            callWith(1, 0);
            m.run(99);
            check.same("not taken", m.result(0) * 100 + m.result(1) * 10 + m.result(2), 912);
            callWith(2, 5, 0);
            m.run(999);
            check.same("factorial", m.result(0), 170);
        }
    }

    private void tableRuns(int tier) {
        fresh(tier);
        m.function(1, 1, 0);
        write("table", BLOCK, 0, 1, BLOCK, 0, 1, PUT, 5, 0, GET, 0, 0, TABLE, 2, 0, ENTRY, 0, 0, ENTRY, 1, 0,
            ENTRY, 2, 0, END, 0, 0, PUT, 10, 0, ADD, 0, 0, END, 0, 0, PUT, 100, 0, ADD, 0, 0, END, 0, 0);
        long[] numbers = {0, 1, 2, 3, -1, 0x100000001L, 0x80000000L};
        int[] results = {115, 105, 5, 5, 5, 105, 5};
        int[] steps = {7, 5, 3, 3, 3, 5, 3};
        for (int i = 0; i < 7; i++) {
            callWith(0, numbers[i]);
            check.same("steps of " + numbers[i], m.run(50), steps[i]);
            check.same("entry of " + numbers[i], m.result(0), results[i]);
        }
    }

    private void indirectCalls(int tier) {
        fresh(tier);
        m.function(2, 1, 0);
        write("minus", GET, 0, 0, GET, 1, 0, 107, 0, 0, END, 0, 0);
        m.function(1, 1, 0);
        write("by the table", PUT, 9, 0, PUT, 4, 0, GET, 0, 0, CALL_ENTRY, 2, 1, END, 0, 0);
        m.entry(3, 0);
        m.entry(29, 0);
        m.entry(4, 1);
        m.function(2, 0, 0);
        write("other results", END, 0, 0);
        m.entry(5, 2);
        for (int i = 0; i < 3; i++) {
            callWith(1, 3);
            check.same("steps", m.run(50), 7);
            check.same("minus", m.result(0), 5);
            callWith(1, 0x10000001DL);
            check.same("steps", m.run(50), 7);
            long[] wrong = {30, -1, 0, 28, 4, 5};
            int[] traps = {6, 6, 7, 7, 8, 8};
            for (int k = 0; k < 6; k++) {
                callWith(1, wrong[k]);
                check.same("steps", m.run(50), 4);
                states("index " + wrong[k], 0, 3, 1, traps[k], 4, 4);
            }
        }
    }

    private void exhaustsByFrames(int tier) {
        fresh(tier);
        m.function(1, 0, 0);
        write("so deep", GET, 0, 0, IF, 0, 0, GET, 0, 0, PUT, 1, 0, 107, 0, 0, CALL, 0, 0, END, 0, 0, END, 0, 0);
        callWith(0, 29);
        check.same("30 frames", m.run(2000), 29 * 6 + 2);
        states("ended", 0, 2, 3, 30);
        callWith(0, 30);
        m.run(29 * 6);
        states("30 frames", 0, 1, 2, 30, 3, 60);
        check.same("one more", m.run(2000), 6);
        states("exhausted", 0, 4, 1, 0, 2, 0, 3, 60, 4, 180);
        check.same("no result", m.result(0), 0);
        check.same("stopped", m.run(1), 0);
    }

    private void exhaustsByValues(int tier) {
        fresh(tier);
        m.function(8, 0, 2);
        for (int i = 0; i < 12; i++) {
            write("twelve", PUT, i, 0);
        }
        for (int i = 0; i < 4; i++) {
            write("eight", FORGET, 0, 0);
        }
        write("itself", CALL, 0, 0, END, 0, 0);
        check.same("asks 22", m.look(0, 3), 12);
        callWith(0, 1, 2, 3, 4, 5, 6, 7, 8);
        check.same("ten frames", m.run(2000), 170);
        states("exhausted", 0, 4, 3, 10, 4, 170);
        callWith(0, 1, 2, 3, 4, 5, 6, 7, 8);
        m.run(169);
        states("ten frames", 0, 1, 2, 10);
    }

    private void keepsWhatALocalWas(int tier) {
        fresh(tier);
        m.function(2, 4, 0);
        write("old and new", GET, 0, 0, GET, 1, 0, GET, 0, 0, TEE, 1, 0, SET, 0, 0, GET, 1, 0, GET, 0, 0,
            PUT, 7, 0, SET, 0, 0, END, 0, 0);
        for (int i = 0; i < 3; i++) {
            callWith(0, 3, 4);
            check.same("steps", m.run(50), 9);
            check.same("kept", m.result(0) * 1000 + m.result(1) * 100 + m.result(2) * 10 + m.result(3), 3433);
        }
        m.function(2, 1, 0);
        write("set on one way only", GET, 0, 0, GET, 1, 0, IF, 0, 0, PUT, 9, 0, SET, 0, 0, END, 0, 0, END, 0, 0);
        for (int i = 0; i < 4; i++) {
            callWith(1, 5, i % 2);
            m.run(50);
            check.same("kept over a label", m.result(0), 5);
        }
    }

    private void states() {
        fresh(2);
        m.function(0, 0, 0);
        write("trap", TRAP, 0, 0, END, 0, 0);
        m.function(0, 1, 0);
        write("fine", PUT, 1, 0, END, 0, 0);
        callWith(0);
        m.run(1);
        states("trapped", 0, 3, 1, 1, 2, 0, 3, 1, 4, 1);
        callWith(1);
        states("the latest trap is still that", 0, 1, 1, 1, 2, 1, 3, 1, 4, 0);
        m.run(1);
        states("ended", 0, 2, 1, 1, 2, 0, 4, 1, 5, 2, 6, 4);
        m.function(1, 1, 1);
        states("the one that is written counts", 5, 3, 6, 4, 7, 1, 8, 0, 9, 0);
        write("some", PUT, 1, 0, BLOCK, 1, 1);
        states("its instructions too", 6, 6, 7, 2, 8, 1);
        for (int what : new int[] {-1, 12, Integer.MIN_VALUE, Integer.MAX_VALUE}) {
            states("others", what, -1);
        }
    }

    private void tiers() {
        m = new RegisterMachine();
        check.same("at first", m.tier(0), 2);
        check.same("was 0", m.tier(7), 0);
        check.same("below 0", m.tier(-1), -1);
        check.same("below 0", m.tier(Integer.MIN_VALUE), -1);
        check.same("did nothing", m.tier(0), 7);
        m.function(0, 0, 0);
        write("end", END, 0, 0);
        for (int i = 1; i <= 5; i++) {
            callWith(0);
            states("never", 3, i, 11, 0);
        }
        m.tier(Integer.MAX_VALUE);
        callWith(0);
        states("not yet", 3, 6, 11, 0);
        m.tier(8);
        callWith(0);
        states("not yet", 3, 7, 11, 0);
        callWith(0);
        states("so often", 3, 8, 11, 1);
        callWith(0);
        m.tier(0);
        callWith(0);
        states("compiled once", 3, 10, 11, 1);
        m.function(0, 0, 0);
        write("end", END, 0, 0);
        for (int i = 0; i < 3; i++) {
            callWith(1);
        }
        m.tier(2);
        callWith(1);
        states("or more often", 3, 4, 11, 2);
    }

    private void framesGoOnAsTheyAre() {
        fresh(2);
        m.function(1, 1, 0);
        write("itself", GET, 0, 0, IF, 0, 1, GET, 0, 0, PUT, 1, 0, 107, 0, 0, CALL, 0, 0, GET, 0, 0, ADD, 0, 0,
            ELSE, 0, 0, PUT, 0, 0, END, 0, 0, END, 0, 0);
        callWith(0, 4);
        m.run(5);
        states("not compiled", 2, 1, 3, 1, 11, 0);
        m.run(1);
        states("compiled with the second frame", 2, 2, 3, 2, 11, 1);
        m.run(100);
        check.same("both kinds of frames", m.result(0), 10);
        states("ended", 0, 2, 3, 5, 4, 4 * 8 + 3);
    }

    private void results() {
        fresh(1);
        m.function(0, 2, 0);
        write("two", PUT, 5, 0, 66, -1, -1, END, 0, 0);
        callWith(0);
        check.same("not ended", m.result(0), 0);
        m.run(9);
        check.same("first", m.result(0), 5);
        check.same("second", m.result(1), -1);
        for (int k : new int[] {-1, 2, 8, Integer.MIN_VALUE, Integer.MAX_VALUE}) {
            check.same("none", m.result(k), 0);
        }
        check.same("a call that is refused", callWith(0, 1), false);
        check.same("changes nothing", m.result(0), 5);
        m.function(1, 0, 0);
        write("trap", TRAP, 0, 0, END, 0, 0);
        m.call(1);
        check.same("goes on", m.result(0), 0);
        m.run(1);
        check.same("trapped", m.result(0), 0);
    }

    private void globalsAndMemory() {
        fresh(1);
        m.function(1, 0, 0);
        for (int k = 0; k < 8; k++) {
            write("set", PUT, k + 1, 0, SET_GLOBAL, k, 0);
        }
        write("store and grow", GET, 0, 0, PUT, -2, 0, 58, 0, 0, PUT, 1, 0, GROW, 0, 0, FORGET, 0, 0, END, 0, 0);
        callWith(0, 63);
        m.run(100);
        for (int k = 0; k < 8; k++) {
            check.same("global", m.global(k), k + 1);
        }
        for (int k : new int[] {-1, 8, Integer.MIN_VALUE, Integer.MAX_VALUE}) {
            check.same("no global", m.global(k), 0);
        }
        check.same("a byte without sign", m.memory(63), 254);
        check.same("the new page", m.memory(64), 0);
        check.same("its end", m.memory(127), 0);
        for (int address : new int[] {-1, 128, 384, Integer.MIN_VALUE, Integer.MAX_VALUE}) {
            check.same("no byte", m.memory(address), -1);
        }
        for (int pages = 3; pages <= 8; pages++) {
            callWith(0, 0);
            m.run(100);
            states("six at most", 10, Math.min(pages, 6));
        }
        check.same("the last byte", m.memory(383), 0);
        check.same("beyond", m.memory(384), -1);
        check.same("they stay", m.memory(63), 254);
    }

    private void looks() {
        m = new RegisterMachine();
        m.function(1, 2, 3);
        write("some", PUT, 1, 0, PUT, 1, 0);
        check.same("one that is written", m.look(0, 0), -1);
        write("labels together", BLOCK, 1, 1, PUT, 1, 0, PUT, 1, 0, PUT, 1, 0, ADD, 0, 0, ADD, 0, 0, ADD, 0, 0,
            END, 0, 0, END, 0, 0);
        int[] due = {1, 2, 3, 5};
        for (int what = 0; what < 4; what++) {
            check.same("look", m.look(0, what), due[what]);
        }
        for (int what : new int[] {-1, 4, Integer.MIN_VALUE, Integer.MAX_VALUE}) {
            check.same("another", m.look(0, what), -1);
        }
        check.same("no such", m.look(1, 0), -1);
        check.same("no such", m.look(-1, 0), -1);
    }

    private void looksAt(String what, int results, int due, int... numbers) {
        int function = m.function(0, results, 0);
        write(what, numbers);
        check.same(what, m.look(function, 3), due);
    }

    private void looksAtDeadLabels() {
        m = new RegisterMachine();
        looksAt("nothing", 0, 0, END, 0, 0);
        looksAt("a dead end", 1, 0, TRAP, 0, 0, END, 0, 0);
        looksAt("eight are missing", 8, 0, TRAP, 0, 0, END, 0, 0);
        looksAt("seven are missing", 8, 1, TRAP, 0, 0, PUT, 1, 0, END, 0, 0);
        looksAt("none is missing", 2, 2, TRAP, 0, 0, PUT, 1, 0, PUT, 1, 0, END, 0, 0);
        looksAt("what was there before", 3, 2, PUT, 1, 0, PUT, 1, 0, TRAP, 0, 0, END, 0, 0);
        looksAt("behind RETURN", 1, 1, PUT, 1, 0, RETURN, 0, 0, END, 0, 0);
        looksAt("RETURN asks only", 5, 0, TRAP, 0, 0, RETURN, 0, 0, END, 0, 0);
        looksAt("BRANCH asks only", 5, 0, TRAP, 0, 0, BRANCH, 0, 0, END, 0, 0);
        looksAt("BRANCH_IF puts again", 5, 5, TRAP, 0, 0, BRANCH_IF, 0, 0, END, 0, 0);
        looksAt("ENTRIES ask only", 5, 0, TRAP, 0, 0, TABLE, 0, 0, ENTRY, 0, 0, END, 0, 0);
        looksAt("FORGET asks only", 5, 0, TRAP, 0, 0, FORGET, 0, 0, END, 0, 0);
        looksAt("ADD puts one", 5, 1, TRAP, 0, 0, ADD, 0, 0, END, 0, 0);
        looksAt("END of an inner one puts", 3, 3, BLOCK, 0, 3, TRAP, 0, 0, END, 0, 0, END, 0, 0);
        looksAt("in a dead one, too", 3, 2, TRAP, 0, 0, BLOCK, 0, 2, TRAP, 0, 0, END, 0, 0, END, 0, 0);
        looksAt("a block puts its parameters", 3, 4, TRAP, 0, 0, BLOCK, 4, 0, TRAP, 0, 0, END, 0, 0, END, 0, 0);
        m.function(0, 0, 0);
        write("an IF whose ends are dead", PUT, 1, 0, IF, 0, 4, TRAP, 0, 0, ELSE, 0, 0, TRAP, 0, 0, END, 0, 0);
        states("END puts four", 8, 4, 9, 0);
        write("gone", RETURN, 0, 0, END, 0, 0);
        check.same("four", m.look(m.state(5) - 1, 3), 4);
    }

    /** What a dead end of the function asks for is not asked of the 220 values. */
    private void deadEndsAskForNothing(int tier) {
        for (int more = 4; more <= 5; more++) {
            fresh(tier);
            m.function(0, 8, 8);
            write("traps", TRAP, 0, 0, END, 0, 0);
            m.function(0, 0, 0);
            for (int i = 0; i < 26; i++) {
                write("eight more", CALL, 0, 0);
            }
            for (int i = 0; i < more; i++) {
                write("one more", PUT, i, 0);
            }
            write("end", TRAP, 0, 0, END, 0, 0);
            check.same("it asks", m.look(1, 3), 208 + more);
            callWith(1);
            check.same("steps", m.run(9), more == 4 ? 2 : 1);
            states("8 locals are left, or not", 0, more == 4 ? 3 : 4, 1, more == 4 ? 1 : 0);
        }
    }
}
