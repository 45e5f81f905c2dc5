import java.util.Random;

/** Random programs, run by the machine at every tier and in pieces of any size, against the model. */
public final class TwinTests {
    private static final int[] PLAIN = {1, 26, 27, 32, 33, 34, 35, 36, 40, 41, 42, 43, 44, 45, 46, 47, 48, 49,
        50, 51, 52, 53, 54, 55, 56, 57, 58, 59, 60, 61, 62, 63, 64, 65, 66, 69, 70, 71, 72, 73, 80, 81, 83, 106,
        107, 108, 110, 113, 116, 124, 125, 126, 167, 173};
    private static final int[] LOCALS = {32, 32, 32, 33, 34, 34, 65};
    private static final int[] CONTROL = {2, 2, 3, 4, 4, 5, 5, 11, 11, 11, 12, 13, 13, 13, 14, 15, 16, 16, 17, 0};

    private final Random random;
    private final Pair pair;
    private int wholes = 0;

    private TwinTests(long seed, Check check) {
        random = new Random(seed);
        pair = new Pair("seed " + seed, check);
    }

    public static void main(String[] args) {
        int seeds = args.length > 0 ? Integer.parseInt(args[0]) : 20000;
        Check check = new Check();
        for (int seed = 0; seed < seeds && check.wrong() == 0; seed++) {
            new TwinTests(seed, check).play();
        }
        check.finish();
    }

    private void play() {
        if (random.nextInt(4) > 0) {
            pair.tier(random.nextInt(4));
        }
        int rounds = 2 + random.nextInt(5);
        for (int i = 0; i < rounds; i++) {
            writeFunction();
            if (random.nextInt(3) > 0) {
                pair.entry(random.nextInt(32) - 1, random.nextInt(wholes + 2) - 1);
            }
            int calls = 1 + random.nextInt(4);
            for (int k = 0; k < calls; k++) {
                callOne();
            }
            if (random.nextInt(8) == 0) {
                pair.tier(random.nextInt(5) - 1);
            }
        }
        pair.lookAll();
    }

    private void writeFunction() {
        int most = random.nextInt(6) == 0 ? 9 : 4;
        int number = pair.function(random.nextInt(most), random.nextInt(most), random.nextInt(3));
        if (number < 0) {
            return;
        }
        int length = 3 + random.nextInt(40);
        for (int i = 0; i < length && pair.machine.state(7) > 0; i++) {
            writeOne();
            if (random.nextInt(6) == 0) {
                pair.state(7 + random.nextInt(3));
            }
        }
        for (int i = 0; i < 300 && pair.machine.state(7) > 0; i++) {
            close();
        }
        if (pair.machine.state(7) > 0) {
            pair.drop();
        } else {
            wholes = number + 1;
        }
        for (int what = -1; what <= 4; what++) {
            pair.look(number, what);
        }
    }

    private void writeOne() {
        int kind = random.nextInt(10);
        if (kind < 3) {
            pair.code(LOCALS[random.nextInt(LOCALS.length)], random.nextInt(5), 0);
        } else if (kind < 6) {
            pair.code(65, small(), 0);
        } else if (kind < 8) {
            int op = PLAIN[random.nextInt(PLAIN.length)];
            pair.code(op, op >= 40 && random.nextInt(30) == 0 ? random.nextInt() : random.nextInt(8),
                random.nextInt(5) - 2);
        } else if (random.nextInt(40) == 0) {
            pair.code(random.nextInt(210) - 5, random.nextInt(30) - 3, random.nextInt(12) - 2);
        } else {
            writeControl(CONTROL[random.nextInt(CONTROL.length)]);
        }
    }

    private void writeControl(int op) {
        if ((op == 12 || op == 15 || op == 0) && random.nextInt(2) == 0) {
            return;
        }
        int own = Math.max(0, Math.min(4, pair.machine.state(8)));
        int labels = pair.machine.state(7);
        int[] choices = {random.nextInt(3), own, 0, 1};
        int a = choices[random.nextInt(4)];
        switch (op) {
            case 2: case 3: case 4:
                pair.code(op, a, random.nextInt(4) == 0 ? random.nextInt(6) - 1 : a);
                break;
            case 12: case 13:
                pair.code(op, random.nextInt(labels + 1), 0);
                break;
            case 14:
                table(labels);
                break;
            case 16:
                pair.code(op, random.nextInt(wholes + 2), 0);
                break;
            case 17:
                pair.code(65, random.nextInt(31), 0);
                pair.code(op, random.nextInt(4), random.nextInt(4));
                break;
            default:
                pair.code(op, 0, 0);
                break;
        }
    }

    private void table(int labels) {
        int branches = random.nextInt(4);
        if (pair.code(14, branches, 0) < 0) {
            return;
        }
        int before = pair.machine.state(6);
        for (int tries = 0; tries < 40 && pair.machine.state(6) < before + branches + 1; tries++) {
            pair.code(random.nextInt(12) == 0 ? 1 : 6, random.nextInt(labels + 1), 0);
            pair.state(8);
            pair.state(9);
        }
    }

    private void close() {
        int choice = random.nextInt(5);
        if (choice < 3 && pair.code(11, 0, 0) >= 0) {
            return;
        }
        if (pair.machine.state(7) > 0 && pair.code(5, 0, 0) >= 0) {
            return;
        }
        if (choice == 3 || pair.machine.state(8) > 3) {
            pair.code(26, 0, 0);
        } else if (choice == 4) {
            pair.code(32, random.nextInt(4), 0);
            pair.code(65, small(), 0);
        }
    }

    private int small() {
        int[] choices = {0, 1, 2, 3, random.nextInt(64), random.nextInt(), -1, 5};
        return choices[random.nextInt(choices.length)];
    }

    /** Only a call takes arguments away: here a call of a new function with 8 parameters. */
    private void clearArguments() {
        for (int i = 0; i < 9; i++) {
            pair.argument(i);
        }
        int number = pair.function(8, 0, 0);
        if (number >= 0) {
            pair.code(11, 0, 0);
            wholes = number + 1;
            pair.call(number);
        }
    }

    private void callOne() {
        int f = random.nextInt(12) == 0 || wholes == 0 ? wholes : random.nextInt(wholes);
        int parameters = pair.machine.look(f, 0);
        for (int i = 0; i < parameters; i++) {
            pair.argument(random.nextInt(5) == 0 ? random.nextLong() : small());
        }
        if (random.nextInt(20) == 0) {
            pair.argument(small());
        }
        if (!pair.call(f)) {
            clearArguments();
        }
        int pieces = 1 + random.nextInt(12);
        for (int i = 0; i < pieces; i++) {
            int size = random.nextInt(4) == 0 ? random.nextInt(300) : random.nextInt(4);
            pair.run(random.nextInt(50) == 0 ? -1 : size);
            pair.state(random.nextInt(14) - 1);
            if (random.nextInt(6) == 0) {
                pair.lookAll();
            }
        }
        pair.lookAll();
    }
}
