/**
 * The sentences about functions, labels and instructions as they are written, each on both sides of its
 * boundary; a comment in quotes is the sentence of the document that the test is for.
 */
public final class WritingTests extends Bench {
    /** Operation, a, b, how many operands it takes, how many it puts. */
    private static final int[][] EXCHANGES = {
        {1, 0, 0, 0, 0}, {16, 0, 0, 3, 2}, {17, 0, 0, 1, 0}, {17, 8, 8, 9, 8}, {17, 2, 1, 3, 1}, {17, 0, 8, 1, 8},
        {26, 0, 0, 1, 0}, {27, 0, 0, 3, 1}, {32, 0, 0, 0, 1}, {33, 0, 0, 1, 0}, {34, 0, 0, 1, 1}, {35, 0, 0, 0, 1},
        {36, 0, 0, 1, 0}, {63, 0, 0, 0, 1}, {64, 0, 0, 1, 1}, {65, 0, 0, 0, 1}, {66, 0, 0, 0, 1}, {69, 0, 0, 1, 1},
        {70, 0, 0, 2, 1}, {71, 0, 0, 2, 1}, {72, 0, 0, 2, 1}, {73, 0, 0, 2, 1}, {80, 0, 0, 1, 1}, {81, 0, 0, 2, 1},
        {83, 0, 0, 2, 1}, {106, 0, 0, 2, 1}, {107, 0, 0, 2, 1}, {108, 0, 0, 2, 1}, {110, 0, 0, 2, 1},
        {113, 0, 0, 2, 1}, {116, 0, 0, 2, 1}, {124, 0, 0, 2, 1}, {125, 0, 0, 2, 1}, {126, 0, 0, 2, 1},
        {167, 0, 0, 1, 1}, {173, 0, 0, 1, 1}};

    public static void main(String[] args) {
        WritingTests tests = new WritingTests();
        tests.numbersOfAFunction();
        tests.oneIsWrittenAtATime();
        tests.fortyFunctions();
        tests.fifteenHundredInstructions();
        tests.longestCodeForRegisters();
        tests.placesOfLocals();
        tests.labelOfTheFunction();
        tests.exchanges();
        tests.whatIsNotToldOf();
        tests.otherOperations();
        tests.operandsOfADeadLabelAreGone();
        tests.numbersOfALabel();
        tests.labelsTakeAndPutParameters();
        tests.elsePlaces();
        tests.elseAsksWhatEndAsks();
        tests.endsOfOpenLabels();
        tests.endsOfDeadLabels();
        tests.ifWithoutElse();
        tests.endOfTheFunction();
        tests.labelsFromTheInside();
        tests.manyLabelsInLabels();
        tests.wantsOfLabels();
        tests.branchIfPutsAgain();
        tests.returns();
        tests.sizesOfTables();
        tests.entriesOfTables();
        tests.entriesWantTheSame();
        tests.tablesInDeadLabels();
        tests.callsOfFunctions();
        tests.callsByTheTable();
        tests.globalsThatThereAre();
        tests.dropsAndWritesAgain();
        tests.mostOperands();
        tests.check.finish();
    }

    private void operands(int count) {
        write("operands", count, PUT);
    }

    /** "A FUNCTION has PARAMETERS, RESULTS and further LOCALS (each 0 .. 8 ..)"; "-1, doing nothing". */
    private void numbersOfAFunction() {
        int[] wrong = {-1, 9, LEAST, GREATEST};
        for (int place = 0; place < 3; place++) {
            for (int n : wrong) {
                fresh(2);
                whole("another", 0, 0, 0, END, 0, 0);
                long[] before = seen();
                check.same("function of " + n, m.function(place == 0 ? n : 1, place == 1 ? n : 1, place == 2 ? n : 1), -1);
                unchanged("function of " + n, before);
                check.same("the next number is not lost", m.function(0, 0, 0), 1);
            }
            for (int n = 0; n <= 8; n++) {
                fresh(2);
                int number = m.function(place == 0 ? n : 1, place == 1 ? n : 1, place == 2 ? n : 1);
                check.same("function of " + n, number, 0);
                write("end", TRAP, 0, 0, END, 0, 0);
                for (int what = 0; what < 3; what++) {
                    check.same("look " + what, m.look(0, what), what == place ? n : 1);
                }
            }
        }
    }

    /** "-1, doing nothing, when one is written"; "when none is written". */
    private void oneIsWrittenAtATime() {
        fresh(2);
        refuse("code when there is no function", NOTHING, 0, 0);
        refuse("END when there is no function", END, 0, 0);
        begin(1, 1, 1);
        write("some", PUT, 1, 0, BLOCK, 1, 1);
        long[] before = seen();
        check.same("function while one is written", m.function(2, 2, 2), -1);
        check.same("a wrong one, too", m.function(9, 9, 9), -1);
        unchanged("function while one is written", before);
        write("the first goes on", END, 0, 0, END, 0, 0);
        for (int what = 0; what < 3; what++) {
            check.same("it is as it was", m.look(0, what), 1);
        }
        refuse("code behind its end", NOTHING, 0, 0);
        check.same("the next one", m.function(0, 0, 0), 1);
    }

    /** "At most 40 functions"; "-1, doing nothing, when .. there are 40". */
    private void fortyFunctions() {
        fresh(2);
        for (int i = 0; i < 39; i++) {
            check.same("function", m.function(i % 9, 0, 0), i);
            write("end", END, 0, 0);
        }
        check.same("the fortieth", m.function(5, 0, 0), 39);
        refuse("there are 40", CALL, 40, 0);
        states("forty", 5, 40, 6, 39);
        check.same("it is given up", m.drop(), true);
        check.same("it is not the fortieth now", m.state(5), 39);
        check.same("the fortieth again", m.function(0, 1, 0), 39);
        write("it is whole", PUT, 7, 0, END, 0, 0);
        long[] before = seen();
        check.same("there are 40", m.function(0, 0, 0), -1);
        unchanged("a function too many", before);
        check.same("drop", m.drop(), false);
        gives("the fortieth", 39, with(), 1, 7);
    }

    /** "1500 instructions in all"; so many are more calls than are promised, but must not harm. */
    private void fifteenHundredInstructions() {
        fresh(1);
        whole("first", 0, 0, 0, NOTHING, 0, 0, END, 0, 0);
        begin(0, 0, 0);
        for (int i = 3; i <= 1499; i++) {
            check.same("instruction", m.code(i < 752 ? BLOCK : END, 0, 0), i);
        }
        states("one block is left", 6, 1499, 7, 2);
        check.same("the last", m.code(END, 0, 0), 1500);
        refuse("there are 1500", END, 0, 0);
        refuse("there are 1500", NOTHING, 0, 0);
        check.same("drop", m.drop(), true);
        states("the first is left", 5, 1, 6, 2, 7, 0);
        begin(0, 0, 0);
        for (int i = 3; i < 1500; i++) {
            check.same("instruction", m.code(NOTHING, 0, 0), i);
        }
        check.same("the last", m.code(END, 0, 0), 1500);
        gives("a long one", 1, with(), 1497);
        gives("the first", 0, with(), 1);
        check.same("a function has room", m.function(0, 0, 0), 2);
        refuse("an instruction has none", END, 0, 0);
        fresh(1);
        begin(0, 0, 0);
        for (int i = 1; i <= 1500; i++) {
            check.same("label", m.code(BLOCK, 0, 0), i);
        }
        states("as many labels as instructions, and the function's", 7, 1501);
        refuse("there are 1500", END, 0, 0);
    }

    /** As the sentence above, for the function whose code for registers is the longest. */
    private void longestCodeForRegisters() {
        fresh(1);
        int eight = begin(0, 8, 0);
        operands(8);
        write("end", END, 0, 0);
        int f = begin(0, 1, 0);
        operands(1);
        for (int i = 0; i < 165; i++) {
            write("eight conditions", CALL, eight, 0);
            write("each on its own", 7, BRANCH_IF);
            write("none is left", FORGET, 0, 0);
        }
        write("end", END, 0, 0);
        check.same("all are done", callWith(f), true);
        check.same("in part", m.run(2000), 2000);
        check.same("the rest", m.run(2000), 1 + 165 * 17 - 2000);
        states("ended", 0, 2, 11, 2);
    }

    /** "locals are the parameters and then these". */
    private void placesOfLocals() {
        int[] counts = {0, 1, 8};
        for (int parameters : counts) {
            for (int locals : counts) {
                fresh(2);
                begin(parameters, 0, locals);
                int all = parameters + locals;
                for (int op = GET; op <= TEE; op++) {
                    operands(1);
                    refuse("no such local", op, all, 0);
                    refuse("no such local", op, -1, 0);
                    refuse("no such local", op, LEAST, 0);
                    refuse("no such local", op, GREATEST, 0);
                    if (all > 0) {
                        write("the last local", op, all - 1, 0);
                        write("the first local", op == SET ? TEE : op, 0, 0);
                    }
                }
            }
        }
    }

    /** "Label 0 of a function: no parameters, its results, height 0." */
    private void labelOfTheFunction() {
        fresh(2);
        begin(8, 8, 8);
        states("no operands", 7, 1, 8, 0, 9, 0);
        refuse("parameters are no operands", FORGET, 0, 0);
        operands(7);
        refuse("it wants its results", BRANCH, 0, 0);
        refuse("END, too", END, 0, 0);
        operands(1);
        states("above height 0", 8, 8);
        write("end", END, 0, 0);
        states("none is written", 7, 0, 8, 0, 9, 0);
    }

    private void begunWithFunction() {
        fresh(2);
        whole("takes 3, puts 2", 3, 2, 0, PUT, 0, 0, PUT, 0, 0, END, 0, 0);
        begin(1, 0, 0);
    }

    private int[][] allExchanges() {
        int[][] all = java.util.Arrays.copyOf(EXCHANGES, EXCHANGES.length + 23);
        for (int op = 40; op <= 62; op++) {
            all[EXCHANGES.length + op - 40] = new int[] {op, op * 7777777, 0, op < 54 ? 1 : 2, op < 54 ? 1 : 0};
        }
        return all;
    }

    /** "An instruction TAKES operands (they have to be there, above the label's height) and then PUTS some." */
    private void exchanges() {
        for (int[] e : allExchanges()) {
            for (int there = 0; there <= e[3] + 1; there++) {
                begunWithFunction();
                operands(there);
                exchange("operation " + e[0] + " of " + there, e, there, there >= e[3]);
                begunWithFunction();
                operands(9);
                write("a label above them", BLOCK, 0, 0);
                operands(there);
                exchange("operation " + e[0] + " above the height, of " + there, e, there, there >= e[3]);
                begunWithFunction();
                write("a dead label", TRAP, 0, 0);
                operands(there);
                exchange("operation " + e[0] + " in a dead label, of " + there, e, there, true);
            }
        }
    }

    private void exchange(String what, int[] e, int there, boolean isTaken) {
        if (!isTaken) {
            refuse(what, e[0], e[1], e[2]);
            return;
        }
        int dead = m.state(9);
        write(what, e[0], e[1], e[2]);
        states(what, 8, Math.max(0, there - e[3]) + e[4], 9, dead);
    }

    /** "an operation and two ints a, b (what is not told of is not looked at)". */
    private void whatIsNotToldOf() {
        int[] neither = {0, 1, 15, 26, 27, 63, 64, 69, 70, 71, 72, 73, 80, 81, 83, 106, 107, 108, 110, 113, 116, 124,
            125, 126, 167, 173};
        for (int op : neither) {
            for (int n : new int[] {LEAST, -1, 9, 1500, GREATEST}) {
                begunWithFunction();
                operands(3);
                write("a and b of " + op, op, n, n);
            }
        }
        for (int[] e : new int[][] {{12, 0}, {13, 0}, {14, 0}, {16, 0}, {32, 0}, {33, 0}, {34, 0}, {35, 0}, {36, 0},
            {40, 0}, {53, 0}, {54, 0}, {62, 0}, {65, 0}}) {
            for (int n : new int[] {LEAST, -1, 9, GREATEST}) {
                begunWithFunction();
                operands(3);
                write("b of " + e[0], e[0], e[1], n);
            }
        }
        begunWithFunction();
        write("of what has a label", PUT, 0, 0, IF, 0, 0, ELSE, LEAST, GREATEST, END, GREATEST, LEAST, PUT, 0, 0,
            TABLE, 0, -5, ENTRY, 0, LEAST, END, -1, 99);
        gives("any number for END", 0, with(1, 2, 3), 2, 0, 0);
    }

    /** "-1, doing nothing, when .. it is not as said". */
    private void otherOperations() {
        String known = " 0 1 2 3 4 12 13 14 15 16 17 26 27 32 33 34 35 36 63 64 65 66 69 70 71 72 73 80 81 83 106 107 "
            + "108 110 113 116 124 125 126 167 173 ";
        for (int op = -3; op <= 260; op++) {
            begunWithFunction();
            operands(3);
            if (known.contains(" " + op + " ") || (op >= 40 && op <= 62)) {
                write("operation " + op, op, 0, 0);
            } else {
                refuse("operation " + op, op, 0, 0);
                write("dead", TRAP, 0, 0);
                if (op != END) {
                    refuse("operation " + op + " in a dead label", op, 0, 0);
                }
            }
        }
        begunWithFunction();
        for (int op : new int[] {LEAST, LEAST + 1, 256 + 1, 65536 + 1, GREATEST}) {
            refuse("operation " + op, op, 0, 0);
        }
    }

    /** "behind an instruction that never goes on, DEAD (its operands are gone then)". */
    private void operandsOfADeadLabelAreGone() {
        int[][] ways = {{TRAP, 0, 0}, {BRANCH, 0, 0}, {BRANCH, 1, 0}, {RETURN, 0, 0}};
        for (int[] way : ways) {
            fresh(2);
            begin(0, 2, 0);
            operands(3);
            write("inside", BLOCK, 1, 2);
            operands(2);
            states("open", 8, 3, 9, 0);
            write("never goes on", way);
            states("dead", 7, 2, 8, 0, 9, 1);
            write("end", END, 0, 0);
            states("only the inner label's were gone", 7, 1, 8, 4, 9, 0);
            refuse("the outer one is open", END, 0, 0);
        }
        for (int[] way : new int[][] {{NOTHING, 0, 0}, {BRANCH_IF, 0, 0}, {CALL, 0, 0}, {CALL_ENTRY, 0, 0}}) {
            fresh(2);
            begin(0, 0, 0);
            operands(1);
            write("goes on", way);
            states("open", 9, 0);
        }
    }

    /** "begin a label with a parameters, b results (0 .. 4 each)". */
    private void numbersOfALabel() {
        for (int op = BLOCK; op <= IF; op++) {
            fresh(2);
            begin(0, 0, 0);
            operands(9);
            for (int n : new int[] {-1, 5, 8, LEAST, GREATEST}) {
                refuse("parameters " + n, op, n, 0);
                refuse("results " + n, op, 0, n);
            }
            write("dead", TRAP, 0, 0);
            refuse("5 parameters in a dead label", op, 5, 0);
            refuse("-1 results in a dead label", op, 0, -1);
            for (int n = 0; n <= 4; n++) {
                for (int k = 0; k <= 4; k++) {
                    write("a label", op, n, k);
                    states("in it", 8, n, 9, 0);
                    write("dead", TRAP, 0, 0);
                }
            }
            states("all are begun", 7, 26);
        }
    }

    /** "4 IF (takes one more first) begin a label .., and take and put the parameters." */
    private void labelsTakeAndPutParameters() {
        for (int op = BLOCK; op <= IF; op++) {
            int more = op == IF ? 1 : 0;
            for (int n = 0; n <= 4; n++) {
                fresh(2);
                begin(0, 0, 0);
                operands(1);
                write("a label, so that one is below its height", BLOCK, 0, 0);
                if (n + more > 0) {
                    operands(n + more - 1);
                    refuse("one is missing", op, n, n);
                    operands(1);
                }
                operands(1);
                write("label", op, n, n);
                states("its parameters", 7, 3, 8, n, 9, 0);
                write("its end", END, 0, 0);
                states("its results", 7, 2, 8, n + 1);
            }
        }
    }

    /** "5 ELSE, in a label that 4 began, and that has no ELSE yet". */
    private void elsePlaces() {
        fresh(2);
        begin(0, 0, 0);
        refuse("the function's label", ELSE, 0, 0);
        write("block", BLOCK, 0, 0);
        refuse("a block", ELSE, 0, 0);
        write("loop", LOOP, 0, 0);
        refuse("a loop", ELSE, 0, 0);
        operands(1);
        write("if", IF, 0, 0, BLOCK, 0, 0);
        refuse("a block in an if", ELSE, 0, 0);
        write("end and else", END, 0, 0, ELSE, 0, 0);
        states("it is one label still", 7, 4, 9, 0);
        refuse("a second", ELSE, 0, 0);
        operands(1);
        write("an if in the else", IF, 0, 0, ELSE, 0, 0, END, 0, 0);
        refuse("a second still", ELSE, 0, 0);
        write("end", END, 0, 0);
        refuse("behind the if", ELSE, 0, 0);
        write("dead", TRAP, 0, 0);
        refuse("a dead loop", ELSE, 0, 0);
    }

    /** "what END asks, then the label is as at its beginning, and open". */
    private void elseAsksWhatEndAsks() {
        for (int parameters = 0; parameters <= 4; parameters += 2) {
            for (int results = 0; results <= 4; results += 2) {
                for (int there = 0; there <= 5; there++) {
                    for (int dead = 0; dead <= 1; dead++) {
                        elseOf(parameters, results, there, dead == 1);
                    }
                }
            }
        }
    }

    private void elseOf(int parameters, int results, int there, boolean isDead) {
        fresh(2);
        begin(0, 0, 0);
        operands(3 + parameters);
        write("if", IF, parameters, results);
        if (isDead) {
            write("dead", TRAP, 0, 0);
        } else {
            write("none", parameters, FORGET);
        }
        operands(there);
        String what = "else of " + there + " for " + results;
        if (isDead ? there <= results : there == results) {
            write(what, ELSE, 0, 0);
            states(what, 7, 2, 8, parameters, 9, 0);
        } else {
            refuse(what, ELSE, 0, 0);
        }
    }

    /** "11 END: the label has just its results as operands .. it is over, and its results are put." */
    private void endsOfOpenLabels() {
        for (int op = BLOCK; op <= LOOP; op++) {
            for (int results = 0; results <= 4; results++) {
                fresh(2);
                begin(0, 0, 0);
                operands(3);
                write("label", op, 1, results);
                write("none", FORGET, 0, 0);
                for (int i = 0; i < results; i++) {
                    refuse("results are missing", END, 0, 0);
                    operands(1);
                }
                operands(1);
                refuse("one too many", END, 0, 0);
                write("just so many", FORGET, 0, 0, END, 0, 0);
                states("they are put", 7, 1, 8, 2 + results, 9, 0);
            }
        }
    }

    /** "(in a dead one: not more; what is missing is there)". */
    private void endsOfDeadLabels() {
        for (int op = BLOCK; op <= IF; op++) {
            for (int there = 0; there <= 3; there++) {
                fresh(2);
                begin(0, 2, 0);
                operands(6);
                write("dead label", op, 2, 2);
                write("dead", TRAP, 0, 0);
                operands(there);
                if (there > 2) {
                    refuse("more than its results", END, 0, 0);
                    write("not more", FORGET, 0, 0);
                }
                write("end", END, 0, 0);
                states("its results are put", 7, 1, 8, op == IF ? 5 : 6, 9, 0);
            }
        }
        for (int there = 0; there <= 3; there++) {
            fresh(2);
            begin(0, 2, 0);
            write("the function's label", TRAP, 0, 0);
            operands(there);
            if (there > 2) {
                refuse("more than its results", END, 0, 0);
            } else {
                write("end", END, 0, 0);
                states("the function is whole", 7, 0, 8, 0, 9, 0);
            }
        }
    }

    /** "An IF without ELSE has as many parameters as results." */
    private void ifWithoutElse() {
        for (int parameters = 0; parameters <= 4; parameters++) {
            for (int results = 0; results <= 4; results++) {
                for (int dead = 0; dead <= 1; dead++) {
                    fresh(2);
                    begin(0, 0, 0);
                    operands(5);
                    write("if", IF, parameters, results);
                    write("none", parameters, FORGET);
                    if (dead == 1) {
                        write("dead", TRAP, 0, 0);
                    }
                    operands(results);
                    if (parameters == results) {
                        write("without else", END, 0, 0);
                    } else {
                        refuse("without else, " + parameters + " to " + results, END, 0, 0);
                        write("else", ELSE, 0, 0, TRAP, 0, 0, END, 0, 0);
                    }
                    states("behind it", 7, 1, 8, 4 - parameters + results, 9, 0);
                }
            }
        }
    }

    /** "END of label 0 ends the function." */
    private void endOfTheFunction() {
        fresh(2);
        begin(1, 2, 3);
        operands(2);
        for (int what = 0; what < 4; what++) {
            check.same("not whole yet", m.look(0, what), -1);
        }
        check.same("no call of it", callWith(0, 1), false);
        check.same("no entry for it", m.entry(0, 0), false);
        write("a label's end is not the function's", BLOCK, 0, 0, END, 0, 0);
        check.same("not whole yet", m.look(0, 0), -1);
        check.same("the last", m.code(END, 0, 0), 5);
        int[] due = {1, 2, 3, 2};
        for (int what = 0; what < 4; what++) {
            check.same("whole", m.look(0, what), due[what]);
        }
        check.same("an entry for it", m.entry(0, 0), true);
        check.same("a call of it", m.call(0), true);
    }

    /** "Labels are counted from the inside: 0 is the innermost." */
    private void labelsFromTheInside() {
        for (int op : new int[] {BRANCH, BRANCH_IF}) {
            for (int depth = 0; depth <= 4; depth++) {
                fresh(2);
                begin(0, 0, 0);
                for (int i = 0; i < depth; i++) {
                    write("label", BLOCK, 0, 0);
                }
                operands(1);
                for (int label : new int[] {depth + 1, -1, LEAST, GREATEST}) {
                    refuse("no such label", op, label, 0);
                }
                write("the outermost", op, depth, 0);
                operands(1);
                refuse("no such label, dead or not", op, depth + 1, 0);
            }
        }
    }

    /** "A LABEL has PARAMETERS, RESULTS, a HEIGHT .. and is OPEN or .. DEAD": each by itself, however many are in it. */
    private void manyLabelsInLabels() {
        int depth = 80;
        fresh(1);
        begin(0, 0, 0);
        for (int i = 0; i < depth; i++) {
            write("a label of a kind", i % 3 == 0 ? TRAP : NOTHING, 0, 0, i % 2 == 0 ? BLOCK : LOOP, 0, i % 5);
            operands(i % 4);
        }
        for (int i = depth - 1; i >= 0; i--) {
            boolean isDead = (i + 1) % 3 == 0 && i + 1 < depth;
            int inside = i + 1 < depth ? (i + 1) % 5 : 0;
            states("label " + i, 7, i + 2, 8, (isDead ? 0 : i % 4) + inside, 9, isDead ? 1 : 0);
            refuse("there are so many labels", BRANCH, i + 2, 0);
            write("only its results are left", TRAP, 0, 0, END, 0, 0);
        }
        states("the function's label", 7, 1, 8, 0, 9, 1);
        write("the end", END, 0, 0);
        traps("the first instruction", 0, with(), 1, 1);
    }

    /** "A branch to a label WANTS its results, of a label of a LOOP its parameters." */
    private void wantsOfLabels() {
        int[] wants = {3, 2, 4, 1, 6};
        for (int label = 0; label < wants.length; label++) {
            for (int there = 0; there <= 6; there++) {
                begunInFourLabels();
                operands(there);
                String what = "branch to " + label + " with " + there;
                if (there < wants[label]) {
                    refuse(what, BRANCH, label, 0);
                } else {
                    write(what, BRANCH, label, 0);
                    states(what, 8, 0, 9, 1);
                }
                begunInFourLabels();
                operands(there + 1);
                if (there < wants[label]) {
                    refuse(what, BRANCH_IF, label, 0);
                } else {
                    write(what, BRANCH_IF, label, 0);
                    states(what, 8, there, 9, 0);
                }
            }
        }
    }

    /** A function of 6 results; a loop of 1 parameter, an IF of 4 results, a block of 2, a loop of 3 parameters. */
    private void begunInFourLabels() {
        fresh(2);
        begin(0, 6, 0);
        operands(8);
        write("labels", LOOP, 1, 0, FORGET, 0, 0, PUT, 0, 0, IF, 0, 4, BLOCK, 0, 2);
        operands(3);
        write("the innermost", LOOP, 3, 0, FORGET, 0, 0, FORGET, 0, 0, FORGET, 0, 0);
        states("five labels", 7, 5, 8, 0);
    }

    /** "13 likewise, if the one taken first is not 0 .., puts them again." */
    private void branchIfPutsAgain() {
        for (int there = 0; there <= 5; there++) {
            fresh(2);
            begin(0, 0, 0);
            write("label", BLOCK, 0, 3, TRAP, 0, 0);
            operands(there);
            write("in a dead label", BRANCH_IF, 0, 0);
            states("what is wanted is there", 8, Math.max(3, there - 1), 9, 1);
        }
    }

    /** "15 RETURN: like a branch to the outermost label." */
    private void returns() {
        for (int there = 0; there <= 3; there++) {
            begunInFourLabels();
            m.drop();
            begin(0, 2, 0);
            operands(5);
            write("labels", BLOCK, 0, 4, LOOP, 0, 1);
            operands(there);
            if (there < 2) {
                refuse("results are missing", RETURN, 0, 0);
            } else {
                write("return", RETURN, 0, 0);
                states("dead", 7, 3, 8, 0, 9, 1);
            }
        }
    }

    /** "14 TABLE of a (0 .. 20) branches and one more: takes one". */
    private void sizesOfTables() {
        for (int n : new int[] {-1, 21, LEAST, GREATEST}) {
            fresh(2);
            begin(0, 0, 0);
            operands(1);
            refuse("table of " + n, TABLE, n, 0);
            write("dead", TRAP, 0, 0);
            refuse("table of " + n + " in a dead label", TABLE, n, 0);
            refuse("no table was begun", ENTRY, 0, 0);
        }
        for (int n : new int[] {0, 1, 19, 20}) {
            fresh(2);
            begin(0, 0, 0);
            refuse("nothing to take", TABLE, n, 0);
            operands(2);
            write("table of " + n, TABLE, n, 0);
            for (int i = 0; i <= n; i++) {
                states("one was taken", 8, 1, 9, 0);
                refuse("an entry is due", i % 2 == 0 ? NOTHING : PUT, 0, 0);
                write("entry", ENTRY, 0, 0);
            }
            states("dead", 8, 0, 9, 1);
            refuse("an entry too many", ENTRY, 0, 0);
            write("others again", NOTHING, 0, 0, END, 0, 0);
        }
    }

    /** "the a + 1 next instructions have to be 6 ENTRIES (to a label each ..)". */
    private void entriesOfTables() {
        fresh(2);
        begin(0, 0, 0);
        refuse("no table is there", ENTRY, 0, 0);
        write("labels", BLOCK, 0, 0);
        operands(1);
        write("table", TABLE, 1, 0);
        for (int op = -1; op <= 130; op++) {
            if (op != ENTRY) {
                refuse("no entry: " + op, op, 0, 0);
            }
        }
        for (int label : new int[] {-1, 2, LEAST, GREATEST}) {
            refuse("no such label", ENTRY, label, 0);
        }
        write("the outermost", ENTRY, 1, 0);
        refuse("one is due still", END, 0, 0);
        refuse("one is due still", TABLE, 0, 0);
        write("the innermost", ENTRY, 0, 0);
        states("dead", 7, 2, 8, 0, 9, 1);
        m.drop();
        begin(0, 0, 0);
        operands(1);
        write("given up in a table", TABLE, 3, 0, ENTRY, 0, 0);
        check.same("drop", m.drop(), true);
        begin(0, 0, 0);
        refuse("the table is gone, too", ENTRY, 0, 0);
        write("anything else", NOTHING, 0, 0, END, 0, 0);
    }

    /** "all want as many as the first of them". */
    private void entriesWantTheSame() {
        int[] wants = {3, 2, 4, 1, 6};
        for (int first = 0; first < 5; first++) {
            for (int second = 0; second < 5; second++) {
                begunInFourLabels();
                operands(7);
                write("table", TABLE, 1, 0, ENTRY, first, 0);
                if (wants[first] == wants[second]) {
                    write("the same", ENTRY, second, 0);
                } else {
                    refuse("another number", ENTRY, second, 0);
                    write("the first again", ENTRY, first, 0);
                }
                states("dead", 8, 0, 9, 1);
            }
            for (int there = 0; there < wants[first]; there++) {
                begunInFourLabels();
                operands(there + 1);
                write("table", TABLE, 1, 0);
                refuse("what is wanted is not there", ENTRY, first, 0);
            }
        }
        fresh(2);
        begin(0, 1, 0);
        operands(2);
        write("a loop wants parameters", LOOP, 1, 3, BLOCK, 0, 1, PUT, 0, 0, PUT, 0, 0, TABLE, 2, 0, ENTRY, 1, 0,
            ENTRY, 0, 0, ENTRY, 2, 0);
        states("dead", 8, 0, 9, 1);
    }

    private void tablesInDeadLabels() {
        fresh(2);
        begin(0, 2, 0);
        write("dead", BLOCK, 0, 1, TRAP, 0, 0, TABLE, 1, 0);
        states("as it was", 8, 0, 9, 1);
        refuse("an entry is due", NOTHING, 0, 0);
        write("what is wanted is there", ENTRY, 0, 0);
        refuse("another number", ENTRY, 1, 0);
        write("the same", ENTRY, 0, 0);
        states("dead", 8, 0, 9, 1);
    }

    /** "16 CALL of function a (below how many there are, the one that is written too)". */
    private void callsOfFunctions() {
        fresh(2);
        begin(0, 0, 0);
        write("itself", CALL, 0, 0);
        refuse("the next", CALL, 1, 0);
        refuse("below 0", CALL, -1, 0);
        refuse("far below", CALL, LEAST, 0);
        refuse("far above", CALL, GREATEST, 0);
        write("dead", TRAP, 0, 0);
        refuse("the next, in a dead label", CALL, 1, 0);
        write("end", END, 0, 0);
        begin(8, 8, 0);
        write("the first", CALL, 0, 0);
        operands(7);
        refuse("itself takes 8", CALL, 1, 0);
        operands(1);
        write("itself", CALL, 1, 0);
        states("it puts 8", 8, 8);
        refuse("the next", CALL, 2, 0);
    }

    /** "17 takes an index .., then a parameters, puts b results (0 .. 8 each)". */
    private void callsByTheTable() {
        fresh(2);
        begin(0, 0, 0);
        operands(12);
        for (int n : new int[] {-1, 9, LEAST, GREATEST}) {
            refuse("parameters " + n, CALL_ENTRY, n, 0);
            refuse("results " + n, CALL_ENTRY, 0, n);
        }
        write("most", CALL_ENTRY, 8, 8);
        states("9 were taken, 8 put", 8, 11);
        write("least", CALL_ENTRY, 0, 0);
        states("one was taken", 8, 10);
        write("dead", TRAP, 0, 0);
        refuse("9 in a dead label", CALL_ENTRY, 9, 0);
        refuse("9 in a dead label", CALL_ENTRY, 0, 9);
    }

    /** "35, 36 the same as 32, 33 with global a (0 .. 7)". */
    private void globalsThatThereAre() {
        for (int op = GET_GLOBAL; op <= SET_GLOBAL; op++) {
            fresh(2);
            begin(8, 0, 8);
            operands(8);
            for (int k : new int[] {-1, 8, 15, LEAST, GREATEST}) {
                refuse("no such global", op, k, 0);
            }
            for (int k = 0; k <= 7; k++) {
                write("a global", op, k, 0);
            }
            states("all are taken", 8, op == GET_GLOBAL ? 16 : 0);
            write("dead", TRAP, 0, 0);
            refuse("no such global in a dead label", op, 8, 0);
        }
    }

    /** "The function that is written is given up; its instructions are gone: true; false when none is written." */
    private void dropsAndWritesAgain() {
        fresh(2);
        long[] before = seen();
        check.same("no function", m.drop(), false);
        unchanged("drop of none", before);
        whole("first", 0, 1, 0, PUT, 3, 0, END, 0, 0);
        before = seen();
        check.same("none is written", m.drop(), false);
        unchanged("drop of none", before);
        begin(3, 2, 1);
        check.same("without an instruction", m.drop(), true);
        unchanged("begun and given up", before);
        begin(3, 2, 1);
        operands(9);
        write("some", LOOP, 3, 0, PUT, 0, 0, IF, 0, 0, TRAP, 0, 0);
        check.same("with instructions", m.drop(), true);
        unchanged("written and given up", before);
        check.same("once only", m.drop(), false);
        check.same("its number is free", m.function(0, 0, 0), 1);
        states("as new", 5, 2, 6, 2, 7, 1, 8, 0, 9, 0);
        check.same("behind the first", m.code(END, 0, 0), 3);
        int[] due = {0, 0, 0, 0};
        for (int what = 0; what < 4; what++) {
            check.same("nothing is left of the one before", m.look(1, what), due[what]);
        }
        gives("the first", 0, with(), 1, 3);
        gives("the new one", 1, with(), 0);
    }

    private void most(String what, int due, int... numbers) {
        int function = whole(what, 0, 0, 0, numbers);
        check.same("most operands: " + what, m.look(function, 3), due);
    }

    /** "3 the most operands that it ever has (of all its labels together)". */
    private void mostOperands() {
        fresh(2);
        most("none", 0, END, 0, 0);
        most("one", 1, PUT, 0, 0, FORGET, 0, 0, END, 0, 0);
        most("never two at once", 1, PUT, 0, 0, FORGET, 0, 0, PUT, 0, 0, FORGET, 0, 0, END, 0, 0);
        most("below the height, too", 3, PUT, 0, 0, BLOCK, 0, 0, PUT, 0, 0, PUT, 0, 0, FORGET, 0, 0, FORGET, 0, 0,
            END, 0, 0, FORGET, 0, 0, END, 0, 0);
        most("parameters of a label once", 2, PUT, 0, 0, PUT, 0, 0, BLOCK, 2, 0, FORGET, 0, 0, FORGET, 0, 0, END, 0, 0,
            END, 0, 0);
        most("the condition, too", 3, PUT, 0, 0, PUT, 0, 0, PUT, 0, 0, IF, 2, 0, FORGET, 0, 0, FORGET, 0, 0, ELSE, 0, 0,
            FORGET, 0, 0, FORGET, 0, 0, END, 0, 0, END, 0, 0);
        most("either way", 4, PUT, 0, 0, IF, 0, 0, PUT, 0, 0, FORGET, 0, 0, ELSE, 0, 0, PUT, 0, 0, PUT, 0, 0, PUT, 0, 0,
            PUT, 0, 0, RETURN, 0, 0, END, 0, 0, END, 0, 0);
        most("results of an end", 4, BLOCK, 0, 4, TRAP, 0, 0, END, 0, 0, RETURN, 0, 0, END, 0, 0);
        most("results of a call", 8, PUT, 0, 0, CALL_ENTRY, 0, 8, RETURN, 0, 0, END, 0, 0);
        most("taken before they are put", 3, PUT, 0, 0, PUT, 0, 0, PUT, 0, 0, SELECT, 0, 0, IS_ZERO, 0, 0, FORGET, 0, 0,
            END, 0, 0);
        int eight = whole("eight", 0, 8, 0, TRAP, 0, 0, END, 0, 0);
        most("of a function", 9, PUT, 0, 0, CALL, eight, 0, RETURN, 0, 0, END, 0, 0);
        begin(8, 0, 8);
        write("locals do not count", GET, 15, 0, SET, 0, 0, END, 0, 0);
        check.same("one", m.look(m.state(5) - 1, 3), 1);
    }
}
