/** Promises 30 to 32. */
public final class WholeTests {
    /** Days around the blooms of a busy book's two sorts. */
    private static final int[] TRACED_DAYS = {0, 4, 8, 9, 20, 24, 25};
    private static final Due due = new Due();

    public static void main(String[] args) {
        keepAndBack();
        backToAll();
        keptStays();
        sheetsAndFindings();
        keptInPlace();
        told();
        findingsChangeNothing();
        due.end();
    }

    private static void keepAndBack() {
        OrchardBook x = new OrchardBook();
        due.is("31 nothing is kept", x.back(), Due.NONE);
        due.is("30 year 0", x.keep(), 0);
        x.go(50);
        x.go(50);
        due.is("30 year 2", x.keep(), 2);
        x.go(50);
        due.is("31 year 2", x.back(), 2);
        due.is("32 year", x.told(0), 2);
    }

    private static OrchardBook busy() {
        OrchardBook x = new OrchardBook();
        x.sort(0, 9, 10, 5, 0);
        x.sort(20, 5, 0, 60, 0);
        x.takes(0, 1, true);
        x.takes(0, 0, true);
        x.takes(1, 0, true);
        x.takes(1, 1, true);
        x.distance(5);
        x.at(7, 3, 2);
        x.plant(0, 1, 0, 0);
        x.plant(7, 2, 1, 0);
        x.plant(3, 3, 1, 0);
        x.pull(9, 4);
        x.hours(4);
        x.go(50);
        x.sheet(1, 1, 20);
        x.put(1, 0, 17);
        x.name(1);
        x.frost(21, 6, 40);
        x.frost(22, 0, 90);
        x.cut(0, 1);
        x.go(12);
        x.thin(7, 3);
        x.take(1, 1);
        return x;
    }

    /** All that can be asked without changing anything, in one number. Takes 364 of an object's 512 calls. */
    private static long trace(OrchardBook x) {
        long sum = 0;
        for (int p = 0; p < 12; p++) {
            for (int what = 0; what < 8; what++) {
                sum = sum * 31 + x.of(p, what);
            }
            for (int part = 0; part < 2; part++) {
                sum = sum * 31 + x.fruits(p, part);
                for (int day : TRACED_DAYS) {
                    sum = sum * 31 + x.partners(p, part, day);
                }
            }
        }
        for (int day = 0; day < 50; day++) {
            sum = sum * 31 + x.warmth(day);
        }
        for (int s = 0; s < 6; s++) {
            sum = sum * 31 + x.store(s) * 7 + x.blooms(s);
        }
        for (int what = 0; what < 10; what++) {
            sum = sum * 31 + x.all(what);
        }
        return ((sum * 31 + x.told(0)) * 31 + x.told(1)) * 31 * 31 + x.told(2) * 31 + x.told(4);
    }

    private static void spoilAll(OrchardBook x) {
        x.sort(9, 9, 9, 9, 9);
        x.takes(0, 1, false);
        x.distance(1);
        x.at(11, 15, 15);
        x.plant(11, 1, 0, 0);
        x.pull(0, 3);
        x.pull(9, 0);
        x.cut(7, 9);
        x.thin(7, 0);
        x.hours(100);
        x.take(0, 99);
        x.frost(21, 0, 0);
        x.frost(22, 6, 90);
        x.frost(23, 6, 100);
        x.name(-1);
        x.go(30);
        x.take(1, 99);
        x.pull(7, 0);
        x.at(7, 8, 9);
        x.go(50);
        x.plant(7, 2, 0, 1);
        x.pull(3, 0);
        x.plant(3, 1, 0, 0);
        x.go(20);
    }

    /** A busy book that was kept, was changed in all and came back, as often as told. */
    private static OrchardBook backAgain(int times) {
        OrchardBook x = busy();
        due.is("30 year 1", x.keep(), 1);
        for (int k = 0; k < times; k++) {
            spoilAll(x);
            due.is("31 year 1", x.back(), 1);
        }
        return x;
    }

    private static void backToAll() {
        long before = trace(busy());
        due.is("30 keep changes nothing", trace(backAgain(0)), before);
        OrchardBook spoiled = backAgain(0);
        spoilAll(spoiled);
        due.holds("31 the acts changed nothing", trace(spoiled) != before);
        OrchardBook x = backAgain(1);
        due.is("31 hours are back", x.hours(4), 4);
        due.is("31 distance is back", x.distance(5), 5);
        due.is("31 all is as it was", trace(x), before);
        for (int days = 1; days <= 38; days++) {
            OrchardBook again = backAgain(1);
            OrchardBook still = busy();
            long set = still.all(0);
            again.go(days);
            still.go(days);
            due.holds("31 more was set by day 12 and " + days, still.all(0) > set || days < 10);
            due.is("31 goes on as it would have, frosts too", trace(again), trace(still));
        }
    }

    private static void keptStays() {
        long before = trace(busy());
        for (int times = 1; times <= 3; times++) {
            due.is("31 what is kept stays", trace(backAgain(times)), before);
        }
    }

    private static void sheetsAndFindings() {
        OrchardBook x = new OrchardBook();
        x.sheet(0, 1, 2);
        x.put(0, 0, 11);
        x.name(0);
        x.keep();
        x.put(0, 0, 22);
        x.sheet(1, 1, 1);
        x.name(1);
        x.go(99);
        x.back();
        due.is("31 THE SHEET is back", x.told(4), 0);
        due.is("31 its numbers are not", x.warmth(0), 22);
        due.is("31 a sheet stays", x.put(1, 0, 5), 0);
        due.is("31 findings are not", x.told(3), 1);
    }

    private static void keptInPlace() {
        OrchardBook x = new OrchardBook();
        x.keep();
        x.sort(0, 1, 0, 1, 0);
        x.keep();
        x.sort(0, 1, 0, 1, 0);
        x.back();
        due.is("30 in place of what was", x.told(2), 1);
        x.back();
        due.is("30 in place of what was", x.told(2), 1);
        due.is("31 a sort anew", x.sort(0, 1, 0, 1, 0), 1);
        due.is("31 takes none at first", x.takes(1, 1, true), 1);
    }

    private static void told() {
        OrchardBook x = new OrchardBook();
        due.is("32 THE SHEET", x.told(4), Due.ABSENT);
        due.is("32 -100 is no finding", x.told(3), 0);
        due.is("32 -1", x.told(-1), Due.BEYOND);
        due.is("32 5", x.told(5), Due.BEYOND);
        due.is("32 its own findings", x.told(3), 2);
        x.sort(0, 1, 0, 1, 0);
        x.name(2);
        x.go(50);
        x.name(3);
        x.go(7);
        due.is("32 year", x.told(0), 1);
        due.is("32 days done", x.told(1), 7);
        due.is("32 sorts", x.told(2), 1);
        due.is("32 THE SHEET", x.told(4), 3);
        due.is("32 findings", x.told(3), 2);
    }

    private static void findingsChangeNothing() {
        OrchardBook x = busy();
        int count = x.told(3);
        due.is("sort", x.sort(0, 1, 0, 61, 0), Due.BEYOND);
        due.is("takes", x.takes(0, 2, true), Due.BEYOND);
        due.is("at", x.at(7, 9, 9), Due.TAKEN);
        due.is("distance", x.distance(16), Due.BEYOND);
        due.is("plant", x.plant(9, 1, 0, 0), Due.TAKEN);
        due.is("pull", x.pull(0, -1), Due.BEYOND);
        due.is("as", x.as(0, 5), Due.KIND);
        due.is("of", x.of(9, 4), Due.KIND);
        due.is("cut", x.cut(0, 10), Due.BEYOND);
        due.is("sheet", x.sheet(1, 0, -1), Due.SIZE);
        due.is("put", x.put(1, 20, 60), Due.BEYOND);
        due.is("copy", x.copy(1, 0, 1, 1, 20), Due.BEYOND);
        due.is("name", x.name(4), Due.BEYOND);
        due.is("warmth", x.warmth(50), Due.BEYOND);
        due.is("sum", x.sum(50), Due.BEYOND);
        due.is("blooms", x.blooms(2), Due.BEYOND);
        due.is("frost", x.frost(11, 6, 100), Due.TAKEN);
        due.is("partners", x.partners(0, 1, 0), Due.KIND);
        due.is("go", x.go(0), Due.BEYOND);
        due.is("fruits", x.fruits(0, 1), Due.KIND);
        due.is("thin", x.thin(0, -1), Due.BEYOND);
        due.is("hours", x.hours(1001), Due.BEYOND);
        due.is("store", x.store(2), Due.BEYOND);
        due.is("take", x.take(1, -1), Due.BEYOND);
        due.is("all", x.all(10), Due.BEYOND);
        due.is("lone", x.lone(9), Due.KIND);
        due.is("given", x.given(0), Due.NONE);
        due.is("back", x.back(), Due.NONE);
        due.is("told", x.told(5), Due.BEYOND);
        due.is("32 each is counted", x.told(3), count + 29);
        due.is("none changed anything", trace(x), trace(busy()));
    }
}
