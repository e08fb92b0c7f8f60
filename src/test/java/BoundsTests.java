/** For each number of each act: the least and the most that the document tells, and what is beyond them. */
public final class BoundsTests {
    private static final Due due = new Due();
    private static final Twins bare = new Twins(due, Twins.Start.BARE);
    private static final Twins orchard = new Twins(due, Twins.Start.ORCHARD);
    private static final int MIN = Integer.MIN_VALUE;
    private static final int MAX = Integer.MAX_VALUE;

    public static void main(String[] args) {
        sortsAndPlaces();
        sheetsAndWarmth();
        fruit();
        layingAndWhole();
        due.end();
    }

    private static Object[] of(Object... numbers) {
        return numbers;
    }

    /** The number at this position has these bounds; MIN or MAX for none. */
    private static void bound(Twins twins, String act, Object[] numbers, int position, int low, int high) {
        String what = "number " + position + " from " + low + " to " + high;
        twins.inside(what, act, with(numbers, position, low));
        twins.inside(what, act, with(numbers, position, high));
        if (low > MIN) {
            twins.refused(what, Due.BEYOND, act, with(numbers, position, low - 1));
            twins.refused(what, Due.BEYOND, act, with(numbers, position, MIN));
        }
        if (high < MAX) {
            twins.refused(what, Due.BEYOND, act, with(numbers, position, high + 1));
            twins.refused(what, Due.BEYOND, act, with(numbers, position, MAX));
        }
    }

    private static Object[] with(Object[] numbers, int position, int number) {
        Object[] changed = numbers.clone();
        changed[position] = number;
        return changed;
    }

    private static void sortsAndPlaces() {
        Object[] sort = of(10, 3, 10, 5, 0);
        bound(orchard, "sort", sort, 0, 0, 2000);
        bound(orchard, "sort", sort, 1, 1, 9);
        bound(orchard, "sort", sort, 2, 0, 2000);
        bound(orchard, "sort", sort, 3, 1, 60);
        bound(orchard, "sort", sort, 4, 0, 9);
        bound(orchard, "takes", of(0, 1, false), 0, 0, 2);
        bound(orchard, "takes", of(0, 1, false), 1, 0, 2);
        bound(bare, "at", of(5, 1, 1), 0, 0, 11);
        bound(bare, "at", of(5, 1, 1), 1, 0, 15);
        bound(bare, "at", of(5, 1, 1), 2, 0, 15);
        bound(orchard, "distance", of(2), 0, 1, 15);
        bound(bare, "plant", of(5, 1, 0, 0), 0, 0, 11);
        bound(bare, "plant", of(5, 1, 0, 0), 1, 1, 4);
        for (int kind = 1; kind <= 4; kind++) {
            bound(bare, "plant", of(5, kind, 0, 0), 2, 0, 2);
            boolean isGrafted = kind == 2;
            bound(bare, "plant", of(5, kind, 0, 0), 3, isGrafted ? 0 : MIN, isGrafted ? 2 : MAX);
        }
        bound(orchard, "pull", of(5, 1), 0, 0, 11);
        bound(orchard, "pull", of(5, 1), 1, 0, 9);
        bound(orchard, "as", of(5, 1), 0, 0, 11);
        bound(orchard, "as", of(5, 1), 1, 1, 5);
        bound(orchard, "of", of(5, 1), 0, 0, 11);
        bound(orchard, "of", of(5, 1), 1, 0, 7);
        bound(orchard, "cut", of(5, 1), 0, 0, 11);
        bound(orchard, "cut", of(5, 1), 1, 0, 9);
    }

    private static void sheetsAndWarmth() {
        bound(orchard, "sheet", of(2, 1, 5), 0, 0, 3);
        bound(orchard, "sheet", of(2, 1, 5), 1, 0, 2);
        for (int kind = 0; kind <= 2; kind++) {
            orchard.inside("n 0", "sheet", 2, kind, 0);
            orchard.inside("n 50", "sheet", 2, kind, 50);
            orchard.refused("SIZE: n is below 0", Due.SIZE, "sheet", 2, kind, -1);
            orchard.refused("SIZE: n is below 0", Due.SIZE, "sheet", 2, kind, MIN);
            orchard.refused("BEYOND: n is above 50", Due.BEYOND, "sheet", 2, kind, 51);
            orchard.refused("BEYOND: n is above 50", Due.BEYOND, "sheet", 2, kind, MAX);
        }
        bound(orchard, "put", of(2, 30, 9), 0, 0, 3);
        bound(orchard, "put", of(2, 30, 9), 1, 0, 49);
        bound(orchard, "put", of(2, 30, 9), 2, MIN, MAX);
        Object[] copy = of(2, 20, 1, 30, 1);
        bound(orchard, "copy", copy, 0, 0, 3);
        bound(orchard, "copy", copy, 1, 0, 49);
        bound(orchard, "copy", copy, 2, 0, 3);
        bound(orchard, "copy", copy, 3, 0, 49);
        bound(orchard, "copy", of(2, 0, 1, 0, 1), 4, 0, 50);
        bound(orchard, "copy", of(2, 20, 1, 0, 1), 4, 0, 30);
        bound(orchard, "copy", of(2, 0, 1, 20, 1), 4, 0, 30);
        bound(orchard, "copy", of(2, 0, 1, 0, 0), 1, 0, 50);
        bound(orchard, "copy", of(2, 0, 1, 0, 0), 3, 0, 50);
        bound(orchard, "name", of(1), 0, -1, 3);
        bound(orchard, "warmth", of(1), 0, 0, 49);
        bound(orchard, "sum", of(1), 0, 0, 49);
        bound(orchard, "blooms", of(1), 0, 0, 2);
        bound(orchard, "frost", of(4, 0, 0), 0, 0, 49);
        bound(orchard, "frost", of(4, 0, 0), 1, 0, 6);
        bound(orchard, "frost", of(4, 0, 0), 2, 0, 100);
    }

    private static void fruit() {
        bound(orchard, "partners", of(5, 0, 3), 0, 0, 11);
        bound(orchard, "partners", of(5, 0, 3), 1, 0, 1);
        bound(orchard, "partners", of(5, 0, 3), 2, 0, 49);
        bound(orchard, "go", of(1), 0, 1, 50);
        bound(orchard, "fruits", of(5, 0), 0, 0, 11);
        bound(orchard, "fruits", of(5, 0), 1, 0, 1);
        bound(orchard, "thin", of(5, 0), 0, 0, 11);
        bound(orchard, "thin", of(5, 0), 1, 0, MAX);
        bound(orchard, "hours", of(1), 0, 0, 1000);
        bound(orchard, "store", of(1), 0, 0, 2);
        bound(orchard, "take", of(1, 1), 0, 0, 2);
        bound(orchard, "take", of(1, 1), 1, 0, MAX);
        bound(orchard, "all", of(1), 0, 0, 9);
    }

    private static void layingAndWhole() {
        bound(orchard, "lone", of(1), 0, 0, 11);
        // Places 0 to 4 hold trees of kind 1.
        bound(orchard, "given", of(1), 0, 0, 4);
        bound(orchard, "told", of(1), 0, 0, 4);
    }
}
