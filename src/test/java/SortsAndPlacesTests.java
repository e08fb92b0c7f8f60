/** Promises 1 to 10. */
public final class SortsAndPlacesTests {
    private static final Due due = new Due();
    private static final int MIN = Integer.MIN_VALUE;
    private static final int MAX = Integer.MAX_VALUE;

    public static void main(String[] args) {
        newObject();
        sort();
        sortFull();
        takes();
        at();
        distance();
        plant();
        pull();
        plantAnew();
        as();
        of();
        ofByYears();
        buds();
        cut();
        due.end();
    }

    private static OrchardBook withSorts(int n) {
        OrchardBook x = new OrchardBook();
        for (int s = 0; s < n; s++) {
            due.is("sort", x.sort(0, 1, 0, 60, 0), s);
        }
        return x;
    }

    private static void newObject() {
        OrchardBook x = new OrchardBook();
        due.is("1 year", x.told(0), 0);
        due.is("1 days done", x.told(1), 0);
        due.is("1 sorts", x.told(2), 0);
        due.is("1 findings", x.told(3), 0);
        due.is("1 THE SHEET", x.told(4), Due.ABSENT);
        for (int p = 0; p < 12; p++) {
            due.is("1 empty place", x.of(p, 0), 0);
        }
        for (int what = 0; what < 10; what++) {
            due.is("1 all(" + what + ")", x.all(what), 0);
        }
        for (int s = 0; s < 4; s++) {
            due.is("1 sheet MISSING", x.put(s, 0, 0), Due.MISSING);
        }
        due.is("1 hours", x.hours(0), 0);
        due.is("1 distance", x.distance(3), 3);
        due.is("1 nothing kept", x.back(), Due.NONE);
        due.is("1 nothing given", x.given(0), Due.NONE);
    }

    private static void sort() {
        OrchardBook x = new OrchardBook();
        due.is("2 need -1", x.sort(-1, 1, 0, 1, 0), Due.BEYOND);
        due.is("2 need 2001", x.sort(2001, 1, 0, 1, 0), Due.BEYOND);
        due.is("2 length 0", x.sort(0, 0, 0, 1, 0), Due.BEYOND);
        due.is("2 length 10", x.sort(0, 10, 0, 1, 0), Due.BEYOND);
        due.is("2 ripening -1", x.sort(0, 1, -1, 1, 0), Due.BEYOND);
        due.is("2 ripening 2001", x.sort(0, 1, 2001, 1, 0), Due.BEYOND);
        due.is("2 keeping 0", x.sort(0, 1, 0, 0, 0), Due.BEYOND);
        due.is("2 keeping 61", x.sort(0, 1, 0, 61, 0), Due.BEYOND);
        due.is("2 first -1", x.sort(0, 1, 0, 1, -1), Due.BEYOND);
        due.is("2 first 10", x.sort(0, 1, 0, 1, 10), Due.BEYOND);
        due.is("2 far", x.sort(MAX, MIN, MAX, MIN, MAX), Due.BEYOND);
        due.is("2 none was made", x.told(2), 0);
        due.is("2 the least", x.sort(0, 1, 0, 1, 0), 0);
        due.is("2 the most", x.sort(2000, 9, 2000, 60, 9), 1);
        due.is("2 two sorts", x.told(2), 2);
    }

    private static void sortFull() {
        OrchardBook x = withSorts(6);
        due.is("2 a seventh", x.sort(0, 1, 0, 1, 0), Due.FULL);
        due.is("2 BEYOND ahead of FULL", x.sort(0, 0, 0, 1, 0), Due.BEYOND);
        due.is("2 six still", x.told(2), 6);
    }

    private static void takes() {
        OrchardBook x = withSorts(2);
        due.is("3 no such sort", x.takes(2, 0, true), Due.BEYOND);
        due.is("3 no such other", x.takes(0, 2, true), Due.BEYOND);
        due.is("3 below", x.takes(-1, 0, true), Due.BEYOND);
        due.is("3 below", x.takes(0, MIN, false), Due.BEYOND);
        due.is("3 off at first", x.takes(0, 1, false), 0);
        due.is("3 on", x.takes(0, 1, true), 1);
        due.is("3 on again", x.takes(0, 1, true), 0);
        due.is("3 one way alone", x.takes(1, 0, true), 1);
        due.is("3 itself", x.takes(1, 1, true), 1);
        due.is("3 off", x.takes(0, 1, false), 1);
        due.is("3 off again", x.takes(0, 1, false), 0);
        due.is("3 others stay", x.takes(1, 1, true), 0);
        x.plant(0, 1, 0, 0);
        x.plant(1, 1, 1, 0);
        due.is("3 takes no more", x.partners(0, 0, 0), 0);
        due.is("3 takes the other and itself", x.partners(1, 0, 0), 2);
    }

    private static void at() {
        OrchardBook x = withSorts(1);
        due.is("4 place -1", x.at(-1, 0, 0), Due.BEYOND);
        due.is("4 place 12", x.at(12, 0, 0), Due.BEYOND);
        due.is("4 x -1", x.at(0, -1, 0), Due.BEYOND);
        due.is("4 x 16", x.at(0, 16, 0), Due.BEYOND);
        due.is("4 y -1", x.at(0, 0, -1), Due.BEYOND);
        due.is("4 y 16", x.at(0, 0, 16), Due.BEYOND);
        x.takes(0, 0, true);
        due.is("4 ordinary", x.at(11, 4, 3), 1);
        x.plant(0, 1, 0, 0);
        x.plant(11, 1, 0, 0);
        due.is("4 x is 4 off", x.partners(0, 0, 0), 1);
        due.is("4 TAKEN", x.at(11, 3, 3), Due.TAKEN);
        due.is("4 BEYOND ahead of TAKEN", x.at(11, 16, 3), Due.BEYOND);
        x.pull(11, 1);
        due.is("4 a GAP is a thing", x.at(11, 3, 3), Due.TAKEN);
        x.pull(11, 0);
        due.is("4 empty again", x.at(11, 3, 3), 1);
        x.plant(11, 1, 0, 0);
        due.is("4 now near", x.partners(0, 0, 0), 2);
        x.pull(11, 0);
        due.is("4 edges", x.at(11, 0, 15), 1);
        due.is("4 edges", x.at(11, 15, 0), 1);
        due.is("4 one spot may hold two places", x.at(11, 0, 0), 1);
        x.plant(11, 1, 0, 0);
        due.is("4 near on one spot", x.partners(0, 0, 0), 2);
    }

    private static void distance() {
        OrchardBook x = withSorts(1);
        due.is("5 0", x.distance(0), Due.BEYOND);
        due.is("5 16", x.distance(16), Due.BEYOND);
        due.is("5 below", x.distance(MIN), Due.BEYOND);
        x.takes(0, 0, true);
        x.at(1, 0, 4);
        x.plant(0, 1, 0, 0);
        x.plant(1, 1, 0, 0);
        x.plant(3, 1, 0, 0);
        due.is("5 3 is near, 4 is not", x.partners(0, 0, 0), 2);
        due.is("5 was 3", x.distance(4), 3);
        due.is("5 y differs by 4", x.partners(0, 0, 0), 3);
        due.is("5 was 4", x.distance(1), 4);
        due.is("5 none is near", x.partners(0, 0, 0), 1);
        due.is("5 was 1", x.distance(15), 1);
        due.is("5 was 15", x.distance(15), 15);
    }

    private static void plant() {
        OrchardBook x = withSorts(2);
        due.is("6 place -1", x.plant(-1, 1, 0, 0), Due.BEYOND);
        due.is("6 place 12", x.plant(12, 1, 0, 0), Due.BEYOND);
        due.is("6 kind 0", x.plant(0, 0, 0, 0), Due.BEYOND);
        due.is("6 kind 5", x.plant(0, 5, 0, 0), Due.BEYOND);
        due.is("6 sort -1", x.plant(0, 1, -1, 0), Due.BEYOND);
        due.is("6 sort 2", x.plant(0, 1, 2, 0), Due.BEYOND);
        due.is("6 other of GRAFTED", x.plant(0, 2, 0, 2), Due.BEYOND);
        due.is("6 other of GRAFTED", x.plant(0, 2, 0, -1), Due.BEYOND);
        due.is("6 nothing yet", x.of(0, 0), 0);
        due.is("6 other of TREE is free", x.plant(0, 1, 0, MAX), 1);
        due.is("6 GRAFTED", x.plant(1, 2, 1, 0), 1);
        due.is("6 other of TRAINED is free", x.plant(2, 3, 0, MIN), 1);
        due.is("6 other of PARTNER is free", x.plant(3, 4, 1, 2), 1);
        due.is("6 GRAFTED of one sort", x.plant(4, 2, 1, 1), 1);
        due.is("6 TAKEN", x.plant(0, 1, 0, 0), Due.TAKEN);
        due.is("6 BEYOND ahead of TAKEN", x.plant(0, 1, 2, 0), Due.BEYOND);
        x.pull(0, 3);
        due.is("6 a GAP is TAKEN", x.plant(0, 1, 0, 0), Due.TAKEN);
        due.is("6 kinds", x.of(1, 0) * 1000 + x.of(2, 0) * 100 + x.of(3, 0) * 10 + x.of(0, 0), 2345);
    }

    private static void pull() {
        OrchardBook x = withSorts(1);
        x.takes(0, 0, true);
        due.is("7 place -1", x.pull(-1, 0), Due.BEYOND);
        due.is("7 place 12", x.pull(12, 0), Due.BEYOND);
        due.is("7 n -1", x.pull(0, -1), Due.BEYOND);
        due.is("7 n 10", x.pull(0, 10), Due.BEYOND);
        due.is("7 nothing", x.pull(0, 0), 0);
        due.is("7 nothing becomes a GAP", x.pull(0, 9), 0);
        due.is("7 its years", x.of(0, 1), 9);
        due.is("7 a GAP anew", x.pull(0, 2), 5);
        due.is("7 its years", x.of(0, 1), 2);
        due.is("7 a GAP goes", x.pull(0, 0), 5);
        due.is("7 nothing", x.of(0, 0), 0);
        x.plant(0, 2, 0, 0);
        x.go(1);
        due.is("7 both parts' fruits", x.all(6), 40);
        due.is("7 GRAFTED", x.pull(0, 1), 2);
        due.is("7 with its fruits", x.all(5), 40);
        due.is("7 none on trees", x.all(6), 0);
        x.go(48);
        due.is("7 a GAP of one year", x.of(0, 1), 1);
        x.go(1);
        due.is("7 is nothing then", x.of(0, 0), 0);
        due.is("7 pulled fruits are not LEFT", x.all(4), 0);
        x.plant(0, 1, 0, 0);
        due.is("7 a new tree", x.of(0, 3), 1);
        due.is("7 a new tree's LOAD", x.of(0, 5), 0);
        due.is("7 a new tree's WOOD", x.of(0, 4), 3);
        due.is("7 a new tree's fruits", x.fruits(0, 0), 0);
        x.pull(0, 3);
        x.go(50);
        due.is("7 one year less", x.of(0, 1), 2);
    }

    private static void plantAnew() {
        OrchardBook x = new OrchardBook();
        x.sort(0, 1, 2000, 60, 0);
        x.takes(0, 0, true);
        x.plant(0, 1, 0, 0);
        x.go(50);
        due.is("6 LOAD", x.of(0, 5), 20);
        x.go(1);
        x.pull(0, 0);
        x.plant(0, 2, 0, 0);
        due.is("6 a new tree's year", x.of(0, 3), 1);
        due.is("6 a new tree's WOOD", x.of(0, 4), 3);
        due.is("6 a new tree's LOAD", x.of(0, 5), 0);
        due.is("6 a new tree's HEIGHT", x.of(0, 6), 0);
        due.is("6 a new tree's fruits", x.fruits(0, 0) + x.fruits(0, 1), 0);
        x.go(49);
        due.is("6 what the old tree set is not its LOAD", x.of(0, 5), 0);
    }

    private static void as() {
        OrchardBook x = withSorts(1);
        due.is("8 nothing", x.as(7, 1), Due.NONE);
        due.is("8 place -1", x.as(-1, 1), Due.BEYOND);
        due.is("8 place 12", x.as(12, 1), Due.BEYOND);
        due.is("8 kind 0", x.as(7, 0), Due.BEYOND);
        due.is("8 kind 6", x.as(7, 6), Due.BEYOND);
        for (int kind = 1; kind <= 4; kind++) {
            x.plant(kind, kind, 0, 0);
        }
        x.pull(5, 1);
        for (int kind = 1; kind <= 5; kind++) {
            for (int asked = 1; asked <= 5; asked++) {
                boolean fits = kind == asked || (asked == 1 && kind <= 4);
                due.is("8 as(" + kind + ", " + asked + ")", x.as(kind, asked), fits ? kind : Due.KIND);
            }
        }
    }

    private static void of() {
        OrchardBook x = withSorts(2);
        due.is("9 place -1", x.of(-1, 0), Due.BEYOND);
        due.is("9 place 12", x.of(12, 0), Due.BEYOND);
        due.is("9 what -1", x.of(0, -1), Due.BEYOND);
        due.is("9 what 8", x.of(0, 8), Due.BEYOND);
        due.is("9 what 8 of a place with nothing", x.of(0, MAX), Due.BEYOND);
        for (int what = 1; what <= 7; what++) {
            due.is("9 nothing", x.of(0, what), Due.NONE);
        }
        x.pull(0, 4);
        due.is("9 GAP", x.of(0, 0), 5);
        due.is("9 GAP's years", x.of(0, 1), 4);
        for (int what = 2; what <= 7; what++) {
            due.is("9 GAP", x.of(0, what), Due.KIND);
        }
        x.plant(1, 2, 1, 0);
        x.plant(2, 4, 1, 0);
        due.is("9 first sort", x.of(1, 1), 1);
        due.is("9 other sort", x.of(1, 2), 0);
        due.is("9 no other", x.of(2, 2), Due.ABSENT);
        int before = x.told(3);
        x.of(2, 2);
        due.is("9 -100 is no finding", x.told(3), before);
    }

    private static void ofByYears() {
        OrchardBook x = new OrchardBook();
        x.sort(0, 1, 0, 60, 2);
        x.go(50);
        x.plant(0, 1, 0, 0);
        x.plant(1, 3, 0, 0);
        for (int years = 0; years <= 8; years++) {
            due.is("9 planted", x.of(0, 3), 1);
            due.is("9 WOOD", x.of(0, 4), Math.min(9, 3 + years));
            due.is("9 LOAD", x.of(0, 5), 0);
            due.is("9 HEIGHT", x.of(0, 6), Math.min(6, years));
            due.is("9 HEIGHT of TRAINED", x.of(1, 6), Math.min(1, years));
            due.is("9 BUDS", x.of(0, 7), years < 2 ? 0 : 20 * Math.min(9, 3 + years));
            due.is("9 BUDS of TRAINED", x.of(1, 7), years < 2 ? 0 : 30 * Math.min(9, 3 + years));
            x.go(50);
        }
    }

    private static void buds() {
        OrchardBook x = withSorts(2);
        x.takes(0, 0, true);
        x.plant(0, 3, 0, 0);
        x.plant(4, 1, 0, 0);
        x.plant(8, 1, 0, 0);
        x.go(1);
        due.is("BUDS 90, one PARTNER", x.fruits(0, 0), 30);
        x.thin(0, 19);
        x.go(49);
        due.is("LOAD", x.of(0, 5), 19);
        due.is("BUDS of TRAINED: 80 - 9 = 71, and 35", x.of(0, 7), 106);
        due.is("LOAD", x.of(4, 5), 20);
        x.cut(4, 9);
        due.is("BUDS: 0 at least", x.of(4, 7), 0);
        due.is("no BUDS, not OPEN", x.partners(4, 0, 0), 0);
        due.is("LOAD of the third", x.of(8, 7), 70);
        OrchardBook y = new OrchardBook();
        y.sort(0, 1, 0, 60, 1);
        y.sort(0, 1, 0, 60, 0);
        y.plant(0, 2, 0, 1);
        y.plant(1, 2, 1, 0);
        due.is("FIRST of the first sort", y.of(0, 7), 0);
        due.is("FIRST of the first sort", y.of(1, 7), 60);
    }

    private static void cut() {
        OrchardBook x = withSorts(1);
        due.is("10 place -1", x.cut(-1, 0), Due.BEYOND);
        due.is("10 place 12", x.cut(12, 0), Due.BEYOND);
        due.is("10 c -1", x.cut(0, -1), Due.BEYOND);
        due.is("10 c 10", x.cut(0, 10), Due.BEYOND);
        due.is("10 nothing", x.cut(0, 1), Due.NONE);
        x.pull(0, 1);
        due.is("10 GAP", x.cut(0, 1), Due.KIND);
        x.plant(1, 4, 0, 0);
        due.is("10 0 less", x.cut(1, 0), 3);
        due.is("10 1 less", x.cut(1, 1), 2);
        due.is("10 BUDS", x.of(1, 7), 40);
        due.is("10 0 at least", x.cut(1, 9), 0);
        due.is("10 WOOD", x.of(1, 4), 0);
        x.go(50);
        due.is("10 WOOD grows again", x.of(1, 4), 1);
    }
}
