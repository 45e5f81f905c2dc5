import java.util.ArrayList;
import java.util.List;

/**
 * "-1, doing nothing", "False, doing nothing": at each place of a long run, every call of a large list that is
 * refused there is made, and the rest of the run has to answer as if none of them had been made.
 */
public final class RefusedTests {
    private static final int FUNCTION = 0;
    private static final int CODE = 1;
    private static final int DROP = 2;
    private static final int ENTRY = 3;
    private static final int ARGUMENT = 4;
    private static final int CALL = 5;
    private static final int RUN = 6;
    private static final int STATE = 7;
    private static final int TIER = 8;
    private static final int RESULT = 9;
    private static final int GLOBAL = 10;
    private static final int MEMORY = 11;
    private static final int LOOK = 12;

    private static final String[] NAMES = {"function", "code", "drop", "entry", "argument", "call", "run", "state", "tier",
        "result", "global", "memory", "look"};

    private final Check check = new Check();
    private final List<int[]> run = new ArrayList<>();
    private final List<int[]> candidates = new ArrayList<>();

    public static void main(String[] args) {
        RefusedTests tests = new RefusedTests();
        tests.gather();
        for (int tier = 0; tier <= 2; tier++) {
            tests.run.clear();
            tests.write(tier);
            tests.call();
            int places = tests.run.size();
            tests.lookAtAll();
            tests.play(places);
        }
        tests.check.finish();
    }

    private static long onMachine(RegisterMachine m, int[] row) {
        switch (row[0]) {
            case FUNCTION: return m.function(row[1], row[2], row[3]);
            case CODE: return m.code(row[1], row[2], row[3]);
            case DROP: return m.drop() ? 1 : 0;
            case ENTRY: return m.entry(row[1], row[2]) ? 1 : 0;
            case ARGUMENT: return m.argument(row[1]);
            case CALL: return m.call(row[1]) ? 1 : 0;
            case RUN: return m.run(row[1]);
            case STATE: return m.state(row[1]);
            case TIER: return m.tier(row[1]);
            case RESULT: return m.result(row[1]);
            case GLOBAL: return m.global(row[1]);
            case MEMORY: return m.memory(row[1]);
            default: return m.look(row[1], row[2]);
        }
    }

    private static long onModel(Model m, int[] row) {
        switch (row[0]) {
            case FUNCTION: return m.function(row[1], row[2], row[3]);
            case CODE: return m.code(row[1], row[2], row[3]);
            case DROP: return m.drop() ? 1 : 0;
            case ENTRY: return m.entry(row[1], row[2]) ? 1 : 0;
            case ARGUMENT: return m.argument(row[1]);
            case CALL: return m.call(row[1]) ? 1 : 0;
            case RUN: return m.run(row[1]);
            case STATE: return m.state(row[1]);
            case TIER: return m.tier(row[1]);
            case RESULT: return m.result(row[1]);
            case GLOBAL: return m.global(row[1]);
            case MEMORY: return m.memory(row[1]);
            default: return m.look(row[1], row[2]);
        }
    }

    private static boolean isRefusal(int[] row, long answer) {
        boolean answersTruth = row[0] == DROP || row[0] == ENTRY || row[0] == CALL;
        return answer == (answersTruth ? 0 : -1);
    }

    private void add(int... row) {
        int[] whole = new int[4];
        System.arraycopy(row, 0, whole, 0, row.length);
        run.add(whole);
    }

    private void codes(int... numbers) {
        for (int i = 0; i + 2 < numbers.length; i += 3) {
            add(CODE, numbers[i], numbers[i + 1], numbers[i + 2]);
        }
    }

    /** Functions with each kind of label, with dead labels, and with a table; one is given up. */
    private void write(int tier) {
        add(TIER, tier);
        add(FUNCTION, 2, 1, 1);
        codes(32, 0, 0, 32, 1, 0, 107, 0, 0, 34, 2, 0, 36, 1, 0, 32, 2, 0, 11, 0, 0);
        add(ENTRY, 3, 0);
        add(ENTRY, 29, 0);
        add(FUNCTION, 1, 2, 0);
        codes(65, 5, 0, 2, 0, 1, 3, 0, 1, 65, 8, 0, 32, 0, 0, 4, 1, 1, 65, 1, 0, 106, 0, 0, 5, 0, 0, 12, 2, 0, 11, 0, 0, 65, 9, 0,
            65, 3, 0, 17, 2, 1, 32, 0, 0, 14, 2, 0, 6, 1, 0, 6, 1, 0, 6, 1, 0, 26, 0, 0, 11, 0, 0, 11, 0, 0, 11, 0, 0);
        add(FUNCTION, 8, 0, 0);
        codes(32, 7, 0, 4, 0, 0, 0, 0, 0);
        add(ARGUMENT, 4);
        add(DROP);
        add(FUNCTION, 1, 0, 0);
        codes(32, 0, 0, 65, 7, 0, 58, 0, 0, 65, 1, 0, 64, 0, 0, 26, 0, 0, 32, 0, 0, 16, 2, 0, 11, 0, 0);
    }

    /** Calls that end, that trap, that exhaust, and that are left for others; arguments wait between them. */
    private void call() {
        add(CALL, 1);
        add(RUN, 4);
        add(RUN, 2000);
        add(RESULT, 0);
        add(RESULT, 1);
        add(ARGUMENT, 1);
        add(ENTRY, 3, -1);
        add(CALL, 1);
        add(RUN, 2000);
        add(STATE, 1);
        add(ENTRY, 3, 0);
        add(ARGUMENT, 3);
        add(CALL, 1);
        add(RUN, 7);
        add(ARGUMENT, 6);
        add(RUN, 3);
        add(RUN, 2000);
        add(CALL, 2);
        add(RUN, 20);
        add(FUNCTION, 0, 0, 0);
        codes(2, 0, 0, 65, 1, 0, 14, 1, 0, 6, 0, 0);
        add(RUN, 2000);
        add(STATE, 0);
        add(ARGUMENT, 8);
        add(ARGUMENT, 9);
        add(CALL, 0);
        add(RUN, 2);
    }

    /** All that can be looked at, then the arguments and the table, by calls, and what is written, by its end. */
    private void lookAtAll() {
        for (int what = 0; what <= 11; what++) {
            add(STATE, what);
        }
        add(RUN, 2000);
        for (int k = 0; k < 8; k++) {
            add(RESULT, k);
            add(GLOBAL, k);
        }
        for (int address = 0; address < 384; address += 3) {
            add(MEMORY, address);
        }
        codes(6, 0, 0, 11, 0, 0, 11, 0, 0);
        for (int f = 0; f < 5; f++) {
            for (int what = 0; what < 4; what++) {
                add(LOOK, f, what);
            }
        }
        add(CALL, 3);
        add(RUN, 9);
        add(STATE, 4);
        for (int n = 0; n < 3; n++) {
            add(ARGUMENT, n);
            add(CALL, 1);
            add(RUN, 2000);
            add(RESULT, 0);
            add(STATE, 3);
        }
        add(STATE, 11);
        add(TIER, 0);
    }

    private void gather() {
        int[] numbers = {Integer.MIN_VALUE, -2, -1, 0, 1, 2, 3, 4, 5, 8, 9, 16, 20, 21, 30, 40, 2001, Integer.MAX_VALUE};
        for (int n : numbers) {
            candidates.add(new int[] {FUNCTION, n, 0, 0});
            candidates.add(new int[] {FUNCTION, 0, n, 0});
            candidates.add(new int[] {FUNCTION, 0, 0, n});
            candidates.add(new int[] {ENTRY, n, 0, 0});
            candidates.add(new int[] {ENTRY, n, -1, 0});
            candidates.add(new int[] {ENTRY, 0, n, 0});
            candidates.add(new int[] {ARGUMENT, n, 0, 0});
            candidates.add(new int[] {CALL, n, 0, 0});
            candidates.add(new int[] {RUN, n, 0, 0});
            candidates.add(new int[] {STATE, n, 0, 0});
            candidates.add(new int[] {TIER, n, 0, 0});
            candidates.add(new int[] {MEMORY, n, 0, 0});
            candidates.add(new int[] {LOOK, n, 0, 0});
            candidates.add(new int[] {LOOK, 0, n, 0});
            candidates.add(new int[] {CODE, n, 0, 0});
            for (int op : new int[] {6, 12, 13, 14, 16, 32, 33, 34, 35, 36}) {
                candidates.add(new int[] {CODE, op, n, 0});
            }
            for (int op : new int[] {2, 3, 4, 17}) {
                candidates.add(new int[] {CODE, op, n, 0});
                candidates.add(new int[] {CODE, op, 0, n});
            }
        }
        candidates.add(new int[] {DROP, 0, 0, 0});
        for (int op = 0; op <= 174; op++) {
            candidates.add(new int[] {CODE, op, 0, 0});
        }
    }

    private void play(int places) {
        long[] due = new long[run.size()];
        Model model = new Model();
        for (int i = 0; i < due.length; i++) {
            due[i] = onModel(model, run.get(i));
        }
        for (int place = 0; place <= places; place++) {
            playWithRefusedAt(place, due);
        }
    }

    private void playWithRefusedAt(int place, long[] due) {
        RegisterMachine machine = new RegisterMachine();
        for (int i = 0; i <= due.length; i++) {
            if (i == place) {
                refuseAll(machine, place);
            }
            if (i < due.length) {
                check.same("refused calls at " + place + ", then " + told(run.get(i)), onMachine(machine, run.get(i)), due[i]);
            }
        }
    }

    private void refuseAll(RegisterMachine machine, int place) {
        for (int[] row : candidates) {
            Model model = new Model();
            for (int i = 0; i < place; i++) {
                onModel(model, run.get(i));
            }
            long answer = onModel(model, row);
            if (isRefusal(row, answer)) {
                check.same("at " + place + " " + told(row), onMachine(machine, row), answer);
            }
        }
    }

    private static String told(int[] row) {
        return NAMES[row[0]] + "(" + row[1] + ", " + row[2] + ", " + row[3] + ")";
    }
}
