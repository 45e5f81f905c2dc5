/** What README.md shows gives what it says there. */
public final class ReadmeTests extends Bench {
    public static void main(String[] args) {
        ReadmeTests tests = new ReadmeTests();
        for (int tier = 0; tier <= 2; tier++) {
            tests.examples(tier);
        }
        tests.check.finish();
    }

    private void examples(int tier) {
        fresh(tier);
        int add = whole("add", 2, 1, 0, GET, 0, 0, GET, 1, 0, ADD, 0, 0, END, 0, 0);
        int sum = whole("sum", 1, 1, 1, LOOP, 0, 0, GET, 1, 0, GET, 0, 0, ADD, 0, 0, SET, 1, 0, GET, 0, 0, PUT, 1, 0,
            SUBTRACT, 0, 0, TEE, 0, 0, BRANCH_IF, 0, 0, END, 0, 0, GET, 1, 0, END, 0, 0);
        for (int i = 0; i < 3; i++) {
            gives("add", add, with(20, 22), 3, 42);
            gives("sum", sum, with(10), 91, 55);
        }
    }
}
