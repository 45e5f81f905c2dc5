/**
 * The sentences about the calls of the face while something runs, each on both sides of its boundary; a comment
 * in quotes is the sentence of the document that the test is for.
 */
public final class OutsideTests extends Bench {
    private static final int CALLS = 4;

    public static void main(String[] args) {
        OutsideTests tests = new OutsideTests();
        tests.aNewObject();
        for (int tier = 0; tier <= 3; tier++) {
            tests.callWhateverWasRunBefore(tier);
            tests.callsThatAreRefused(tier);
            tests.piecesOfAnySize(tier);
            tests.numbersOfSteps(tier);
            tests.resultsOfTheCallThatEnded(tier);
            tests.writingWhileItRuns(tier);
            tests.entriesFromNowOn(tier);
            tests.memoryAndPages(tier);
        }
        tests.numbersOfEntries();
        tests.eightArguments();
        tests.argumentsStayUntilACall();
        tests.statesThatThereAre();
        tests.statesOfWhatIsWritten();
        tests.globalsThatThereAre();
        tests.bytesThatThereAre();
        tests.looksAtWholeFunctions();
        tests.objectsAreApart();
        tests.check.finish();
    }

    /** "No functions; the table is empty, globals are 0, the memory is 0." */
    private void aNewObject() {
        m = new RegisterMachine();
        for (int what = 0; what <= 11; what++) {
            check.same("state " + what, m.state(what), what == 10 ? 1 : 0);
        }
        check.same("no function to call", m.call(0), false);
        check.same("none to look at", m.look(0, 0), -1);
        check.same("none for the table", m.entry(0, 0), false);
        for (int address = -1; address <= 64; address++) {
            check.same("byte " + address, m.memory(address), address < 0 || address > 63 ? -1 : 0);
        }
        for (int k = 0; k < 8; k++) {
            check.same("global", m.global(k), 0);
            check.same("result", m.result(k), 0);
        }
        check.same("the first argument", m.argument(0), 1);
        int f = whole("by the table", 1, 0, 0, GET, 0, 0, CALL_ENTRY, 0, 0, END, 0, 0);
        m.call(f);
        m.run(2);
        states("no entry", 1, 7);
        for (int k = 1; k < 30; k++) {
            callWith(f, k);
            m.run(2);
            states("no entry", 0, 3, 1, 7);
        }
    }

    /** Globals, memory, calls and a loop: 5 + 18 * n + 3 steps for n rounds, and 7 * n + 1 as its result. */
    private int busy() {
        int inner = whole("inner", 2, 1, 1, GET, 0, 0, GET, 1, 0, ADD, 0, 0, TEE, 2, 0, SET_GLOBAL, 1, 0, GET, 2, 0, END, 0, 0);
        return whole("busy", 1, 1, 1, PUT, 1, 0, SET, 1, 0, NOTHING, 0, 0, PUT, 0, 0, FORGET, 0, 0, LOOP, 0, 0, PUT, 7, 0,
            GET, 1, 0, CALL, inner, 0, SET, 1, 0, PUT, 3, 0, GET, 1, 0, STORE_BYTE, 0, 0, GET, 0, 0, PUT, 1, 0, SUBTRACT, 0, 0,
            TEE, 0, 0, BRANCH_IF, 0, 0, END, 0, 0, PUT, 1, 0, FORGET, 0, 0, GET, 1, 0, END, 0, 0);
    }

    /** "A whole function is called .., whatever was run before: true." */
    private void callWhateverWasRunBefore(int tier) {
        for (int steps = 0; steps <= 64; steps++) {
            fresh(tier);
            int f = busy();
            int trap = whole("trap", 0, 0, 0, NOTHING, 0, 0, TRAP, 0, 0, END, 0, 0);
            int endless = whole("endless", 0, 0, 0, NOTHING, 0, 0, CALL, trap + 1, 0, END, 0, 0);
            gives("the first", f, with(3), 62, 22);
            callWith(f, 3);
            check.same("a part of it", m.run(steps), Math.min(steps, 62));
            check.same("another call", callWith(f, 3), true);
            states("it is new", 0, 1, 2, 1, 4, 0);
            check.same("no result yet", m.result(0), 0);
            check.same("its steps", m.run(2000), 62);
            check.same("its result", m.result(0), 22);
            callWith(trap);
            m.run(steps);
            gives("behind a trap", f, with(3), 62, 22);
            callWith(endless);
            m.run(steps);
            gives("behind what exhausts", f, with(2), 44, 15);
        }
    }

    /** "False, doing nothing, when there is no such one, or it has not just so many parameters." */
    private void callsThatAreRefused(int tier) {
        fresh(tier);
        int f = busy();
        int none = whole("no parameters", 0, 0, 0, END, 0, 0);
        int written = begin(0, 0, 0);
        callWith(f, 3);
        for (int steps = 0; steps < 63; steps++) {
            long[] before = seen();
            check.same("no such function", m.call(written + 1), false);
            check.same("no such function", m.call(-1), false);
            check.same("no such function", m.call(LEAST), false);
            check.same("no such function", m.call(GREATEST), false);
            check.same("one that is written", m.call(written), false);
            check.same("an argument is missing", m.call(f), false);
            unchanged("calls that are refused", before);
            m.run(1);
        }
        check.same("it went on", m.result(0), 22);
        long[] before = seen();
        check.same("one", m.argument(5), 1);
        check.same("one too many", m.call(none), false);
        check.same("two", m.argument(6), 2);
        check.same("one too many", m.call(f), false);
        check.same("the arguments are there still", m.argument(7), 3);
        unchanged("calls that are refused", before);
    }

    /** "whichever runs, steps, results, traps, globals and the memory are the same, in pieces of any size". */
    private void piecesOfAnySize(int tier) {
        fresh(0);
        int f = busy();
        long[][] line = new long[64][];
        callWith(f, 3);
        for (int steps = 0; steps < 64; steps++) {
            line[steps] = timely();
            m.run(1);
        }
        for (int piece = 1; piece <= 63; piece++) {
            fresh(tier);
            f = busy();
            for (int i = 0; i < CALLS; i++) {
                samePieces(i > 0, f, piece, line);
            }
        }
    }

    /** One call in pieces; what the call before has left in a global and the memory is there for a while. */
    private void samePieces(boolean isAgain, int f, int piece, long[][] line) {
        callWith(f, 3);
        check.same("at the call", timely()[0], line[0][0]);
        for (int steps = piece; steps < 63 + piece; steps += piece) {
            int due = Math.min(63, steps);
            check.same("a piece of " + piece, m.run(piece), Math.min(piece, Math.max(0, 62 - (steps - piece))));
            long[] now = timely();
            for (int k = 0; k < now.length; k++) {
                if (k < 4 || !isAgain || due > 20) {
                    check.same("after " + steps + " steps, " + k, now[k], line[due][k]);
                }
            }
            check.same("no steps", m.run(0), 0);
        }
    }

    private long[] timely() {
        return new long[] {m.state(0), m.state(2), m.state(4), m.result(0), m.global(1), m.memory(3)};
    }

    /** "n steps, unless it stops: how many. -1 when n is not 0 .. 2000." */
    private void numbersOfSteps(int tier) {
        fresh(tier);
        for (int n : new int[] {0, 1, 2000}) {
            check.same("nothing was called", m.run(n), 0);
        }
        int f = whole("for ever", 0, 0, 0, LOOP, 0, 0, NOTHING, 0, 0, PUT, 1, 0, BRANCH_IF, 0, 0, END, 0, 0, END, 0, 0);
        int once = whole("once", 0, 0, 0, NOTHING, 0, 0, END, 0, 0);
        for (int i = 0; i < CALLS; i++) {
            callWith(f);
            int all = 0;
            for (int n : new int[] {0, 1, 1999, 2000, 0, 7}) {
                check.same("goes on", m.run(n), n);
                all += n;
                states("steps", 0, 1, 4, all);
            }
            long[] before = seen();
            for (int n : new int[] {-1, 2001, LEAST, GREATEST}) {
                check.same("not 0 .. 2000", m.run(n), -1);
            }
            unchanged("a run that is refused", before);
            callWith(once);
            check.same("0 steps", m.run(0), 0);
            states("it goes on", 0, 1, 4, 0);
            check.same("it stops", m.run(2000), 1);
            for (int n : new int[] {0, 1, 2000}) {
                check.same("it has stopped", m.run(n), 0);
            }
            check.same("not 0 .. 2000", m.run(2001), -1);
            check.same("not 0 .. 2000", m.run(-1), -1);
            states("ended", 0, 2, 4, 1);
        }
    }

    /** "Result k of the call that ended, 0 if there is none." */
    private void resultsOfTheCallThatEnded(int tier) {
        fresh(tier);
        int eight = begin(0, 8, 0);
        for (int i = 0; i < 8; i++) {
            write("results", PUT_64, i + 1, -i);
        }
        write("end", END, 0, 0);
        int one = whole("one", 0, 1, 0, PUT, 99, 0, END, 0, 0);
        int trap = whole("trap", 0, 1, 0, TRAP, 0, 0, END, 0, 0);
        int exhausts = whole("exhausts", 0, 1, 0, CALL, trap + 1, 0, END, 0, 0);
        for (int i = 0; i < CALLS; i++) {
            callWith(eight);
            m.run(7);
            check.same("not before it ended", m.result(0), 0);
            m.run(1);
            for (int k = 0; k < 8; k++) {
                check.same("result " + k, m.result(k), k + 1 + ((long) -k << 32));
            }
            for (int k : new int[] {-1, 8, 9, LEAST, GREATEST}) {
                check.same("no result " + k, m.result(k), 0);
            }
            gives("the others are gone", one, with(), 1, 99);
            callWith(eight);
            check.same("a new call has none", m.result(0), 0);
            m.run(9);
            check.same("the last", m.result(7), 8 + (-7L << 32));
            callWith(trap);
            m.run(9);
            check.same("a trap has none", m.result(7) + m.result(0), 0);
            gives("again", one, with(), 1, 99);
            callWith(exhausts);
            m.run(99);
            states("exhausted", 0, 4);
            check.same("what is exhausted has none", m.result(0), 0);
        }
    }

    private void writingWhileItRuns(int tier) {
        for (int i = 0; i < CALLS; i++) {
            fresh(tier);
            int f = busy();
            for (int k = 0; k < i; k++) {
                gives("before", f, with(3), 62, 22);
            }
            callWith(f, 3);
            int all = 0;
            begin(1, 0, 0);
            for (int k = 0; k < 5; k++) {
                write("written between steps", PUT, k, 0, BLOCK, 1, 0);
                all += m.run(3);
                refuse("refused between steps", END, 0, 0);
                all += m.run(2);
            }
            states("both", 4, 25, 7, 6, 8, 1);
            check.same("given up between steps", m.drop(), true);
            all += m.run(2);
            int other = whole("whole between steps", 0, 0, 0, TRAP, 0, 0, END, 0, 0);
            check.same("entry between steps", m.entry(0, other), true);
            check.same("tier between steps", m.tier(1), tier);
            all += m.run(2000);
            check.same("all steps", all, 62);
            check.same("its result", m.result(0), 22);
        }
    }

    /** "Entry k of the table is a whole function from now on, or, for -1, none". */
    private void entriesFromNowOn(int tier) {
        fresh(tier);
        int one = whole("one", 0, 1, 0, PUT, 1, 0, END, 0, 0);
        int two = whole("two", 0, 1, 0, PUT, 2, 0, END, 0, 0);
        int f = whole("entry 7, twice", 0, 2, 0, PUT, 7, 0, CALL_ENTRY, 0, 1, PUT, 7, 0, CALL_ENTRY, 0, 1, END, 0, 0);
        for (int i = 0; i < CALLS; i++) {
            m.entry(7, one);
            gives("one", f, with(), 6, 1, 1);
            callWith(f);
            m.run(4);
            m.entry(7, two);
            m.run(9);
            check.same("one, then two", m.result(0) * 10 + m.result(1), 12);
            callWith(f);
            m.run(4);
            check.same("none", m.entry(7, -1), true);
            check.same("it traps", m.run(9), 1);
            states("none is there", 0, 3, 1, 7);
            check.same("none again", m.entry(7, -1), true);
            check.same("another entry", m.entry(6, one), true);
            traps("none is there still", f, with(), 2, 7);
        }
    }

    /** "PAGES have 64 bytes; it has 1 at first, 6 at most." */
    private void memoryAndPages(int tier) {
        fresh(tier);
        int grow = whole("grow", 1, 2, 0, GET, 0, 0, GROW, 0, 0, PAGES, 0, 0, END, 0, 0);
        int store = whole("store", 2, 0, 0, GET, 0, 0, GET, 1, 0, STORE, 0, 0, END, 0, 0);
        int load = whole("load", 1, 1, 0, GET, 0, 0, LOAD, 0, 0, END, 0, 0);
        int pages = 1;
        gives("the first word", store, with(0, 0x44332211), 3);
        for (long more : new long[] {6, 0xFFFFFFFFL, 0x80000000L, -1, 0, 1, 0, 5, 3, 2, 1, 1L << 32, 0}) {
            long asked = more & 0xFFFFFFFFL;
            long answer = pages + asked > 6 ? 4294967295L : pages;
            traps("beyond the end", store, with(64L * pages - 3, -1), 3, 4);
            check.same("nothing was written", m.memory(64 * pages - 1), 0);
            pages += answer == pages ? (int) asked : 0;
            gives("grow by " + more, grow, with(more), 3, answer, pages);
            states("pages", 10, pages);
            check.same("the last byte", m.memory(64 * pages - 1), 0);
            check.same("no byte", m.memory(64 * pages), -1);
            gives("the last word", store, with(64L * pages - 4, 0x04030201), 3);
            check.same("the lowest byte first", m.memory(64 * pages - 4), 1);
            check.same("the highest last", m.memory(64 * pages - 1), 4);
            gives("the last word", load, with(64L * pages - 4), 2, 0x04030201);
            traps("a byte beyond", load, with(64L * pages - 3), 2, 4);
            gives("away again", store, with(64L * pages - 4, 0), 3);
        }
        states("six", 10, 6);
        for (int address = 0; address < 4; address++) {
            check.same("what was stored stays", m.memory(address), 0x11 * (address + 1));
        }
    }

    /** "false when k is not 0 .. 29, or there is no such whole function". */
    private void numbersOfEntries() {
        fresh(2);
        int one = whole("one", 0, 1, 0, PUT, 1, 0, END, 0, 0);
        int look = whole("look", 1, 1, 0, GET, 0, 0, CALL_ENTRY, 0, 1, END, 0, 0);
        int written = begin(0, 1, 0);
        for (int k = 0; k <= 29; k++) {
            check.same("entry " + k, m.entry(k, one), true);
        }
        for (int k : new int[] {-1, 30, LEAST, GREATEST}) {
            check.same("entry " + k, m.entry(k, one), false);
            check.same("no entry " + k, m.entry(k, -1), false);
        }
        for (int f : new int[] {-2, written, written + 1, 40, LEAST, GREATEST}) {
            for (int k : new int[] {0, 29, 30}) {
                check.same("entry of function " + f, m.entry(k, f), false);
            }
        }
        for (int k = 0; k <= 29; k++) {
            gives("entry " + k, look, with(k), 3, 1);
        }
        m.drop();
        check.same("one that was given up", m.entry(0, written), false);
        for (int k : new int[] {0, 29}) {
            check.same("none", m.entry(k, -1), true);
            traps("none", look, with(k), 2, 7);
        }
        gives("the others stay", look, with(1), 3, 1);
    }

    /** "An argument more for the next call: how many there are. -1, doing nothing, when there are 8." */
    private void eightArguments() {
        fresh(2);
        int eight = begin(8, 8, 0);
        for (int i = 0; i < 8; i++) {
            write("in order", GET, i, 0);
        }
        write("end", END, 0, 0);
        int nine = whole("seven", 7, 0, 0, END, 0, 0);
        for (int i = 0; i < CALLS; i++) {
            for (int k = 1; k <= 8; k++) {
                check.same("argument", m.argument(Long.MIN_VALUE + k), k);
            }
            long[] before = seen();
            check.same("there are 8", m.argument(99), -1);
            check.same("there are 8", m.argument(98), -1);
            unchanged("a ninth argument", before);
            check.same("not just so many", m.call(nine), false);
            check.same("call", m.call(eight), true);
            m.run(8);
            for (int k = 1; k <= 8; k++) {
                check.same("as they were given", m.result(k - 1), Long.MIN_VALUE + k);
            }
        }
    }

    /** "with the arguments there are (they are gone then)". */
    private void argumentsStayUntilACall() {
        fresh(2);
        int f = whole("two", 2, 2, 0, GET, 0, 0, GET, 1, 0, END, 0, 0);
        int none = whole("none", 0, 0, 0, END, 0, 0);
        check.same("one", m.argument(5), 1);
        m.run(10);
        begin(0, 0, 0);
        m.drop();
        m.tier(1);
        m.entry(0, f);
        check.same("not just so many", m.call(f), false);
        check.same("nor so", m.call(none), false);
        check.same("two", m.argument(6), 2);
        gives("both", f, with(), 2, 5, 6);
        check.same("they are gone", m.call(f), false);
        check.same("none is left", m.call(none), true);
        check.same("the first again", m.argument(7), 1);
        check.same("the second", m.argument(8), 2);
        gives("new ones", f, with(), 2, 7, 8);
        int most = begin(1, 0, 8);
        for (int i = 0; i < 27; i++) {
            write("many operands", PUT, 0, 0, CALL_ENTRY, 0, 8);
        }
        write("end", TRAP, 0, 0, END, 0, 0);
        check.same("exhausts at once", callWith(most, 3), true);
        states("exhausted", 0, 4);
        check.same("they are gone, too", m.argument(1), 1);
    }

    /** "-1 for others". */
    private void statesThatThereAre() {
        fresh(2);
        for (int what : new int[] {-1, 12, 13, 255, LEAST, GREATEST}) {
            check.same("state " + what, m.state(what), -1);
        }
        for (int what = 0; what <= 11; what++) {
            check.same("state " + what, m.state(what) >= 0, true);
        }
    }

    /** "7 labels of the function that is written (0 when none is), 8 operands in its innermost one .., 9 1 if dead". */
    private void statesOfWhatIsWritten() {
        fresh(2);
        states("none", 5, 0, 6, 0, 7, 0, 8, 0, 9, 0);
        begin(2, 2, 2);
        states("just begun", 5, 1, 6, 0, 7, 1, 8, 0, 9, 0);
        write("two", PUT, 0, 0, PUT, 0, 0);
        states("two", 6, 2, 7, 1, 8, 2, 9, 0);
        write("a label", BLOCK, 1, 1);
        states("above the height", 6, 3, 7, 2, 8, 1, 9, 0);
        write("dead", TRAP, 0, 0);
        states("dead", 6, 4, 7, 2, 8, 0, 9, 1);
        write("asked for", ADD, 0, 0);
        states("what is only asked for is not counted", 8, 1, 9, 1);
        write("a label in it", LOOP, 2, 0);
        states("open", 7, 3, 8, 2, 9, 0);
        write("two less", FORGET, 0, 0, FORGET, 0, 0, END, 0, 0);
        states("dead as before", 7, 2, 8, 0, 9, 1);
        write("end", END, 0, 0);
        states("open as before", 6, 10, 7, 1, 8, 2, 9, 0);
        write("end", END, 0, 0);
        states("none", 5, 1, 6, 11, 7, 0, 8, 0, 9, 0);
    }

    /** "A global; 0 when there is none." */
    private void globalsThatThereAre() {
        fresh(2);
        int f = begin(0, 0, 0);
        for (int k = 0; k < 8; k++) {
            write("set", PUT_64, k, -1 - k, SET_GLOBAL, k, 0);
        }
        write("end", END, 0, 0);
        gives("set", f, with(), 16);
        for (int k = 0; k < 8; k++) {
            check.same("global " + k, m.global(k), k + ((long) (-1 - k) << 32));
        }
        for (int k : new int[] {-1, 8, 9, LEAST, GREATEST}) {
            check.same("no global " + k, m.global(k), 0);
        }
    }

    /** "A byte of the memory; -1 when there is none." */
    private void bytesThatThereAre() {
        fresh(2);
        int f = whole("a byte", 2, 0, 0, GET, 0, 0, GET, 1, 0, STORE_BYTE, 0, 0, END, 0, 0);
        for (int value : new int[] {0, 1, 127, 128, 254, 255, 256, -1}) {
            for (int address : new int[] {0, 63}) {
                gives("store", f, with(address, value), 3);
                check.same("without sign", m.memory(address), value & 255);
            }
        }
        for (int address : new int[] {-1, 64, 383, 384, LEAST, GREATEST}) {
            check.same("no byte " + address, m.memory(address), -1);
        }
    }

    /** "-1 when there is none, or what is another". */
    private void looksAtWholeFunctions() {
        fresh(2);
        whole("first", 3, 1, 2, PUT, 1, 0, PUT, 1, 0, ADD, 0, 0, END, 0, 0);
        int written = begin(1, 1, 1);
        write("part", PUT, 1, 0);
        int[] due = {3, 1, 2, 2};
        for (int what = 0; what < 4; what++) {
            check.same("look " + what, m.look(0, what), due[what]);
            for (int f : new int[] {-1, -2, written, written + 1, 40, LEAST, GREATEST}) {
                check.same("no whole function " + f, m.look(f, what), -1);
            }
        }
        for (int what : new int[] {-1, 4, 5, LEAST, GREATEST}) {
            check.same("another", m.look(0, what), -1);
        }
        write("whole now", END, 0, 0);
        check.same("whole now", m.look(written, 3), 1);
    }

    private void objectsAreApart() {
        RegisterMachine other = new RegisterMachine();
        fresh(1);
        int f = whole("effects", 1, 1, 0, GET, 0, 0, SET_GLOBAL, 0, 0, PUT, 0, 0, GET, 0, 0, STORE_BYTE, 0, 0, PUT, 1, 0,
            GROW, 0, 0, END, 0, 0);
        m.entry(0, f);
        gives("effects", f, with(9), 7, 1);
        m.argument(1);
        m.function(0, 0, 0);
        for (int what = 0; what <= 11; what++) {
            check.same("another object's state " + what, other.state(what), what == 10 ? 1 : 0);
        }
        check.same("its global", other.global(0), 0);
        check.same("its byte", other.memory(0), 0);
        check.same("its tier", other.tier(2), 2);
        check.same("its arguments", other.argument(1), 1);
    }
}
