import java.util.Random;

/** 512 calls of any kind, in any order, with any numbers, against the model: none may throw or answer otherwise. */
public final class WildTests {
    private static final int[] EDGES = {Integer.MIN_VALUE, -65, -2, -1, 0, 0, 0, 1, 1, 2, 3, 4, 5, 7, 8, 9, 15, 16, 20, 21, 29, 30,
        31, 39, 40, 41, 63, 64, 65, 383, 384, 1499, 1500, 2000, 2001, 65536, Integer.MAX_VALUE};
    private static final int[] OPERATIONS = {2, 3, 4, 5, 6, 11, 11, 11, 11, 12, 13, 14, 15, 16, 16, 17, 26, 26, 32, 32, 33, 34, 65, 65,
        65, 65, 69, 106, 0};

    private final Random random;
    private final Pair pair;
    private int arguments = 0;

    private WildTests(long seed, Check check) {
        random = new Random(seed);
        pair = new Pair("wild seed " + seed, check);
    }

    public static void main(String[] args) {
        int seeds = args.length > 0 ? Integer.parseInt(args[0]) : 3000;
        Check check = new Check();
        for (int seed = 0; seed < seeds && check.wrong() == 0; seed++) {
            WildTests one = new WildTests(seed, check);
            for (int calls = 0; calls < 512; calls++) {
                one.callAny();
            }
        }
        check.finish();
    }

    private int number() {
        return EDGES[random.nextInt(EDGES.length)];
    }

    private int few() {
        return random.nextInt(8) == 0 ? number() : random.nextInt(3);
    }

    private void callAny() {
        switch (random.nextInt(20)) {
            case 0: pair.function(few(), few(), few()); break;
            case 1: pair.entry(few(), random.nextInt(5) - 1); break;
            case 2: if (random.nextInt(20) == 0) { argue(); } break;
            case 3: if (pair.call(few())) { arguments = 0; } break;
            case 4: callOne(random.nextInt(6)); break;
            case 5: pair.run(random.nextInt(3) == 0 ? number() : random.nextInt(9)); break;
            case 6: pair.state(random.nextInt(4) == 0 ? number() : random.nextInt(12)); break;
            case 7: lookAtOne(); break;
            case 8: if (random.nextInt(6) == 0) { pair.drop(); } break;
            case 9: pair.tier(few()); break;
            case 10: pair.code(number(), number(), number()); break;
            case 11: pair.code(40 + random.nextInt(86), number(), number()); break;
            default: pair.code(OPERATIONS[random.nextInt(OPERATIONS.length)], few(), few()); break;
        }
    }

    private void argue() {
        arguments = Math.max(arguments, pair.argument(random.nextInt(3) == 0 ? random.nextLong() : number()));
    }

    /** Gives the arguments that are missing first, so that most of these calls are not refused. */
    private void callOne(int function) {
        int parameters = pair.machine.look(function, 0);
        while (arguments < parameters) {
            argue();
        }
        if (pair.call(function)) {
            arguments = 0;
        }
    }

    private void lookAtOne() {
        switch (random.nextInt(4)) {
            case 0: pair.result(few()); break;
            case 1: pair.global(few()); break;
            case 2: pair.memory(number()); break;
            default: pair.look(few(), few()); break;
        }
    }
}
