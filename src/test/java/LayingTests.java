/** Promises 27 to 29. */
public final class LayingTests {
    private static final Due due = new Due();

    public static void main(String[] args) {
        lone();
        loneByTable();
        loneByBloom();
        best();
        bestOfSeveral();
        bestOfKinds();
        bestByTable();
        bestLong();
        given();
        givenForgotten();
        givenStays();
        due.end();
    }

    private static OrchardBook withSorts(int n) {
        OrchardBook x = new OrchardBook();
        for (int s = 0; s < n; s++) {
            due.is("sort", x.sort(0, 1, 0, 1, 0), s);
        }
        return x;
    }

    private static void lone() {
        OrchardBook x = withSorts(3);
        due.is("27 place -1", x.lone(-1), Due.BEYOND);
        due.is("27 place 12", x.lone(12), Due.BEYOND);
        due.is("27 nothing", x.lone(0), Due.NONE);
        x.pull(0, 1);
        due.is("27 GAP", x.lone(0), Due.KIND);
        x.plant(1, 1, 0, 0);
        due.is("27 none is there", x.lone(1), 1);
        x.plant(4, 4, 1, 0);
        due.is("27 none fits", x.lone(1), 1);
        x.takes(0, 1, true);
        due.is("27 a PARTNER is near", x.lone(1), 0);
        due.is("27 that one takes none", x.lone(4), 1);
        x.distance(2);
        due.is("27 not near", x.lone(1), 1);
        x.takes(0, 0, true);
        due.is("27 itself", x.lone(1), 0);
        x.plant(11, 2, 0, 2);
        x.plant(8, 2, 2, 1);
        due.is("27 one of its parts", x.lone(11), 0);
        due.is("27 none of its parts", x.lone(8), 1);
        x.takes(1, 2, true);
        due.is("27 its other part", x.lone(8), 0);
    }

    private static void loneByTable() {
        OrchardBook x = new OrchardBook();
        x.sort(0, 1, 0, 1, 9);
        x.sort(0, 1, 0, 1, 9);
        x.takes(0, 1, true);
        x.plant(0, 3, 0, 0);
        x.plant(1, 1, 1, 0);
        due.is("27 whatever their BUDS", x.lone(0), 0);
        due.is("19 no BUDS yet", x.partners(0, 0, 0), 0);
        x.sort(100, 1, 0, 1, 0);
        x.takes(2, 1, true);
        x.plant(2, 1, 2, 0);
        due.is("27 not on one day", x.lone(2), 1);
        x.sheet(0, 1, 1);
        x.put(0, 0, 60);
        x.name(0);
        due.is("27 THE SHEET is not asked", x.lone(2), 1);
        x.sort(60, 1, 0, 1, 0);
        x.takes(3, 1, true);
        x.plant(3, 1, 3, 0);
        due.is("17 by THE SHEET", x.blooms(3), 0);
        due.is("27 THE SHEET is not asked", x.lone(3), 1);
        x.go(1);
        due.is("27 done days are not asked", x.lone(3), 1);
    }

    private static void loneByBloom() {
        OrchardBook x = new OrchardBook();
        x.sort(2000, 9, 0, 1, 0);
        x.takes(0, 0, true);
        x.plant(0, 1, 0, 0);
        due.is("27 it never blooms", x.lone(0), 1);
        x.sort(0, 3, 0, 1, 0);
        x.sort(18, 9, 0, 1, 0);
        x.sort(19, 9, 0, 1, 0);
        x.takes(1, 2, true);
        x.takes(2, 1, true);
        x.takes(3, 1, true);
        x.plant(5, 1, 1, 0);
        x.plant(6, 1, 3, 0);
        due.is("27 days 0 to 2, days 3 on", x.lone(6), 1);
        x.plant(7, 1, 2, 0);
        due.is("27 day 2", x.lone(7), 0);
        due.is("27 day 2", x.lone(5), 0);
    }

    private static void best() {
        OrchardBook x = new OrchardBook();
        due.is("28 no sorts, no trees", x.best(), Due.NONE);
        x.sort(0, 1, 0, 1, 0);
        due.is("28 no trees", x.best(), Due.NONE);
        x.plant(5, 2, 0, 0);
        due.is("28 none of kind 1", x.best(), Due.NONE);
        due.is("29 none told", x.given(5), Due.NONE);
        x.plant(0, 1, 0, 0);
        due.is("28 one tree", x.best(), 0);
        due.is("29 its sort", x.given(0), 0);
        x.takes(0, 0, true);
        due.is("28 itself is no other one", x.best(), 0);
        x.plant(3, 1, 0, 0);
        due.is("28 both ways", x.best(), 2);
        x.plant(4, 1, 0, 0);
        due.is("28 near alone: 0-3 and 3-4", x.best(), 4);
        due.is("28 nothing is planted", x.of(5, 0), 2);
    }

    private static void bestOfSeveral() {
        OrchardBook x = withSorts(3);
        x.takes(2, 1, true);
        x.plant(0, 1, 0, 0);
        x.plant(1, 1, 0, 0);
        due.is("28 one way", x.best(), 1);
        due.is("29 the first by places", x.given(0), 1);
        due.is("29 the first by places", x.given(1), 2);
        due.is("28 nothing is planted", x.of(0, 1), 0);
        x.plant(2, 1, 0, 0);
        due.is("28 a sort between", x.best(), 2);
        due.is("29 1, 1, 2", x.given(0) * 100 + x.given(1) * 10 + x.given(2), 112);
        x.takes(1, 0, true);
        due.is("28 with another", x.best(), 2);
        due.is("29 0, 0, 1", x.given(0) * 100 + x.given(1) * 10 + x.given(2), 1);
        x.takes(0, 2, true);
        due.is("28 a round", x.best(), 3);
        due.is("29 0, 1, 2", x.given(0) * 100 + x.given(1) * 10 + x.given(2), 12);
    }

    private static void bestOfKinds() {
        OrchardBook x = withSorts(2);
        x.takes(0, 1, true);
        x.takes(1, 1, true);
        x.plant(0, 1, 0, 0);
        x.plant(1, 4, 1, 0);
        x.plant(2, 3, 1, 0);
        x.plant(3, 2, 1, 1);
        due.is("28 other kinds count neither way", x.best(), 0);
        due.is("29 the lowest sort", x.given(0), 0);
        due.is("29 no TREE of kind 1", x.given(1), Due.BEYOND);
    }

    private static void bestByTable() {
        OrchardBook x = new OrchardBook();
        x.sort(0, 1, 0, 1, 9);
        x.sort(6, 1, 0, 1, 0);
        x.sort(2000, 9, 0, 1, 0);
        for (int a = 0; a < 9; a++) {
            x.takes(a / 3, a % 3, a != 0 && a != 4);
        }
        x.plant(0, 1, 0, 0);
        x.plant(1, 1, 0, 0);
        due.is("28 not on one day, or never", x.best(), 0);
        x.sheet(0, 1, 1);
        x.put(0, 0, 60);
        x.name(0);
        x.distance(4);
        due.is("17 by THE SHEET", x.blooms(1), 0);
        due.is("28 THE SHEET is not asked", x.best(), 0);
        x.takes(0, 0, true);
        due.is("28 whatever their BUDS", x.best(), 2);
    }

    private static void bestLong() {
        int[] most = {12, 12, 7, 6, 5, 4};
        for (int sorts = 1; sorts <= 6; sorts++) {
            OrchardBook x = withSorts(sorts);
            x.takes(sorts - 1, sorts - 1, true);
            x.distance(15);
            for (int p = 0; p < 12; p++) {
                x.plant(p, 1, 0, 0);
                boolean isLong = p + 1 > most[sorts - 1];
                due.is("28 " + sorts + " sorts, " + (p + 1) + " trees", x.best(), isLong ? Due.LONG : (p + 1) * p);
                due.is("29 given", x.given(p), isLong ? Due.NONE : p == 0 ? 0 : sorts - 1);
            }
        }
    }

    private static void given() {
        OrchardBook x = withSorts(1);
        x.plant(0, 1, 0, 0);
        due.is("29 NONE ahead of BEYOND", x.given(-1), Due.NONE);
        due.is("29 none told", x.given(0), Due.NONE);
        x.best();
        due.is("29 place -1", x.given(-1), Due.BEYOND);
        due.is("29 place 12", x.given(12), Due.BEYOND);
        due.is("29 nothing there", x.given(1), Due.BEYOND);
        due.is("29 told", x.given(0), 0);
    }

    private static OrchardBook told() {
        OrchardBook x = withSorts(2);
        x.plant(0, 1, 0, 0);
        x.keep();
        due.is("28 told", x.best(), 0);
        due.is("29 told", x.given(0), 0);
        return x;
    }

    private static void givenForgotten() {
        for (int act = 0; act < 7; act++) {
            OrchardBook x = told();
            int answer = act == 0 ? x.sort(0, 1, 0, 1, 0)
                : act == 1 ? x.takes(0, 0, false)
                : act == 2 ? x.at(5, 5, 0)
                : act == 3 ? x.distance(3)
                : act == 4 ? x.plant(5, 3, 0, 0)
                : act == 5 ? x.pull(5, 0)
                : x.back();
            due.holds("29 act " + act + " was not done", answer >= 0);
            due.is("29 forgotten after act " + act, x.given(0), Due.NONE);
            due.is("28 told anew", x.best(), 0);
            due.is("29 told anew", x.given(0), 0);
        }
    }

    private static void givenStays() {
        OrchardBook x = told();
        due.is("not done", x.sort(0, 0, 0, 1, 0), Due.BEYOND);
        due.is("not done", x.takes(0, 9, true), Due.BEYOND);
        due.is("not done", x.at(0, 0, 0), Due.TAKEN);
        due.is("not done", x.distance(0), Due.BEYOND);
        due.is("not done", x.plant(0, 1, 0, 0), Due.TAKEN);
        due.is("not done", x.pull(0, 10), Due.BEYOND);
        due.is("29 stays", x.given(0), 0);
        OrchardBook y = withSorts(1);
        y.plant(0, 1, 0, 0);
        y.best();
        due.is("not done", y.back(), Due.NONE);
        due.is("29 stays", y.given(0), 0);
        y.cut(0, 1);
        y.go(50);
        y.keep();
        y.sheet(0, 1, 1);
        y.name(0);
        due.is("29 stays with other acts", y.given(0), 0);
    }
}
