import java.util.ArrayList;
import java.util.Arrays;
import java.util.List;
import java.util.Random;

/** Runs of as many calls as an object is for, ordinary and wild ones: OrchardBook and PlainBook answer the same. */
public final class RandomRunTests {
    private static final int RUNS = 700;
    private static final int BALANCE_CALLS = 12;
    private static final int CALLS = 512 - BALANCE_CALLS;
    private static final int[] WILD = {Integer.MIN_VALUE, Integer.MAX_VALUE, -1, -2, 0, 1, 5, 6, 7, 9, 10, 11, 12, 15,
        16, 49, 50, 51, 60, 61, 100, 101, 1000, 1001, 2000, 2001, 65535, -65536};

    private static final Due due = new Due();

    /** A call's name, how often it comes, and for each number its least and most ordinary value. */
    private record Shape(String name, int weight, int... bounds) { }

    private static final List<Shape> SHAPES = List.of(
        new Shape("sort", 4, 0, 300, 1, 9, 0, 200, 1, 60, 0, 2), new Shape("takes", 8, 0, 5, 0, 5),
        new Shape("at", 4, 0, 11, 0, 15, 0, 5), new Shape("distance", 2, 1, 15),
        new Shape("plant", 14, 0, 11, 1, 4, 0, 5, 0, 5), new Shape("pull", 2, 0, 11, 0, 3),
        new Shape("as", 1, 0, 11, 1, 5), new Shape("of", 8, 0, 11, 0, 7), new Shape("cut", 1, 0, 11, 0, 3),
        new Shape("sheet", 3, 0, 3, 0, 2, 0, 50), new Shape("put", 12, 0, 3, 0, 20, -5, 70),
        new Shape("copy", 3, 0, 3, 0, 20, 0, 3, 0, 20, 0, 20), new Shape("name", 4, -1, 3),
        new Shape("warmth", 4, 0, 49), new Shape("sum", 2, 0, 49), new Shape("blooms", 3, 0, 5),
        new Shape("frost", 6, 0, 30, 0, 6, 0, 100), new Shape("partners", 8, 0, 11, 0, 1, 0, 30),
        new Shape("go", 14, 1, 20), new Shape("fruits", 8, 0, 11, 0, 1), new Shape("thin", 2, 0, 11, 0, 30),
        new Shape("hours", 2, 0, 200), new Shape("store", 3, 0, 5), new Shape("take", 3, 0, 5, 0, 60),
        new Shape("all", 6, 0, 9), new Shape("lone", 3, 0, 11), new Shape("best", 1), new Shape("given", 4, 0, 11),
        new Shape("keep", 3), new Shape("back", 3), new Shape("told", 3, 0, 4));

    /** One object and its plain twin, and what both were asked. */
    private static final class Run {
        final int seed;
        final Random random;
        final OrchardBook book = new OrchardBook();
        final PlainBook plain = new PlainBook();
        final List<String> calls = new ArrayList<>();

        Run(int seed) {
            this.seed = seed;
            random = new Random(seed);
        }

        int any(int low, int high) {
            return low + random.nextInt(high - low + 1);
        }

        boolean goesOn() {
            return calls.size() < CALLS && due.wrong() == 0;
        }

        void ask(String act, Object... numbers) {
            calls.add(act + Arrays.toString(numbers));
            long got = Calls.call(book, act, numbers);
            long want = Calls.call(plain, act, numbers);
            due.is("run " + seed + ": " + calls.get(calls.size() - 1), got, want);
        }
    }

    public static void main(String[] args) {
        for (int seed = 0; seed < RUNS && due.wrong() == 0; seed++) {
            oneRun(new Run(seed));
        }
        due.end();
    }

    private static void oneRun(Run run) {
        // Some runs hardly ever go wrong, others often.
        int wildness = run.seed % 3 == 0 ? 5 : 60;
        if (run.seed % 2 == 0) {
            denseOrchard(run);
        }
        while (run.goesOn()) {
            Shape shape = run.calls.size() < 6 && run.seed % 5 != 0 ? SHAPES.get(0) : anyShape(run.random);
            int count = Calls.methodOf(OrchardBook.class, shape.name()).getParameterCount();
            run.ask(shape.name(), numbersFor(shape, count, run.random, wildness));
        }
        balance(run.book, "run " + run.seed);
        if (due.wrong() != 0) {
            System.out.println(run.calls);
        }
    }

    /** Near trees that bloom early and years that are through: chance alone seldom comes to a full store. */
    private static void denseOrchard(Run run) {
        int sorts = run.any(1, 6);
        for (int s = 0; s < sorts; s++) {
            int keeping = run.any(0, 2) == 0 ? 60 : run.any(1, 60);
            run.ask("sort", run.any(0, 60), run.any(1, 9), run.any(0, 80), keeping, run.any(0, 1));
        }
        for (int a = 0; a < sorts; a++) {
            for (int b = 0; b < sorts; b++) {
                run.ask("takes", a, b, run.any(0, 3) != 0);
            }
        }
        run.ask("distance", run.any(5, 15));
        for (int place = 0; place < 12; place++) {
            run.ask("plant", place, run.any(1, 4), run.any(0, sorts - 1), run.any(0, sorts - 1));
        }
        run.ask("hours", run.any(0, 1000));
        int years = run.any(0, 3);
        for (int k = 0; k < years; k++) {
            run.ask("go", 50);
        }
        run.ask("go", run.any(1, 40));
    }

    /** Each fruit that was set is somewhere, and so is each that was picked. */
    private static void balance(OrchardBook x, String where) {
        long gone = x.all(1) + x.all(2) + x.all(3) + x.all(4) + x.all(5) + x.all(6);
        due.is(where + ": fruits set", x.all(0), gone);
        due.is(where + ": fruits picked", x.all(2), x.all(7) + x.all(8) + x.all(9));
        due.holds(where + ": the store is too full", x.all(9) <= 1000);
    }

    private static Shape anyShape(Random random) {
        int all = 0;
        for (Shape s : SHAPES) {
            all += s.weight();
        }
        int at = random.nextInt(all);
        for (Shape s : SHAPES) {
            at -= s.weight();
            if (at < 0) {
                return s;
            }
        }
        return SHAPES.get(0);
    }

    private static Object[] numbersFor(Shape shape, int count, Random random, int wildness) {
        Object[] numbers = new Object[count];
        for (int k = 0; k < count; k++) {
            if (2 * k >= shape.bounds().length) {
                numbers[k] = random.nextInt(4) != 0;
            } else if (random.nextInt(wildness) == 0) {
                numbers[k] = WILD[random.nextInt(WILD.length)];
            } else {
                int low = shape.bounds()[2 * k];
                numbers[k] = low + random.nextInt(shape.bounds()[2 * k + 1] - low + 1);
            }
        }
        if (shape.name().equals("put")) {
            numbers[2] = numberForSheet(random);
        }
        if (shape.name().equals("sheet") && random.nextInt(3) != 0) {
            numbers[2] = 30 + random.nextInt(21);
        }
        return numbers;
    }

    /** Bits of floats near the bounds, of no numbers, of anything, and small numbers for shorts. */
    private static int numberForSheet(Random random) {
        switch (random.nextInt(6)) {
            case 0:
                return random.nextInt();
            case 1:
                return 0x7f800000 + random.nextInt(3) - 1 + (random.nextBoolean() ? 0x80000000 : 0);
            case 2:
                return 0x7fc00000;
            case 3:
                return random.nextInt(70) - 4;
            default:
                return Float.floatToRawIntBits(random.nextFloat() * 72 - 6);
        }
    }
}
