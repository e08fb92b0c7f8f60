/**
 * The boundary cases of sorts, places, laying and the whole: terms 1, promises 1 to 10 and 27 to 32.
 * Each method is one sentence of the document.
 */
public final class OrchardSentencesTests {
    private static final Due due = new Due();
    private static final int MIN = Integer.MIN_VALUE;
    private static final int MAX = Integer.MAX_VALUE;

    public static void main(String[] args) {
        sortsAtMostSix();
        takesNoneAtFirst();
        placesAtFirst();
        nearByDistance();
        nearByBothWays();
        woodZeroToNine();
        heightAtMostSix();
        heightOfTrained();
        budsByFirst();
        budsAreZeroAtLeast();
        budsOfTrained();
        partsOfOneBud();
        newObject();
        pullOfNothing();
        pullOfAllKinds();
        gapYears();
        asAndUnder();
        otherOneIsNoFinding();
        cutToZero();
        loneByItself();
        loneOnTheLastDays();
        loneNeverInBloom();
        loneByPlaceZero();
        bestOfNone();
        bestGoesThroughAll();
        bestOfTwelve();
        givenSinceTheLatest();
        keepInPlace();
        backBySorts();
        backInTheYear();
        toldOfFindings();
        due.end();
    }

    /** A sort that blooms on day 0 alone, whose fruits are never ripe by THE TABLE. */
    private static OrchardBook withSorts(int n, int first) {
        OrchardBook x = new OrchardBook();
        for (int s = 0; s < n; s++) {
            x.sort(0, 1, 2000, 60, first);
        }
        return x;
    }

    /** One sort that takes itself; two PARTNERS at 1 and 2 help whatever is at 0. */
    private static OrchardBook withHelpers(int kind) {
        OrchardBook x = withSorts(1, 0);
        x.takes(0, 0, true);
        x.plant(0, kind, 0, 0);
        x.plant(1, 4, 0, 0);
        x.plant(2, 4, 0, 0);
        return x;
    }

    private static void sortsAtMostSix() {
        OrchardBook x = withSorts(5, 0);
        due.is("five", x.told(2), 5);
        due.is("the sixth", x.sort(0, 1, 0, 1, 0), 5);
        due.is("no seventh", x.sort(0, 1, 0, 1, 0), Due.FULL);
        for (int s = 0; s < 6; s++) {
            due.is("each blooms", x.blooms(s), 0);
            due.is("each has a store", x.store(s), 0);
            due.is("each can be planted", x.plant(s, 2, s, 5 - s), 1);
            due.is("on its place", x.of(s, 1) * 10 + x.of(s, 2), s * 10 + 5 - s);
        }
    }

    private static void takesNoneAtFirst() {
        OrchardBook x = withSorts(6, 0);
        for (int a = 0; a < 6; a++) {
            for (int b = 0; b < 6; b++) {
                due.is("none at first", x.takes(a, b, false), 0);
                due.is("new", x.takes(a, b, true), 1);
                due.is("not new", x.takes(a, b, true), 0);
            }
        }
        due.is("no more", x.takes(5, 0, false), 1);
        due.is("no more already", x.takes(5, 0, false), 0);
        due.is("one way alone", x.takes(0, 5, true), 0);
        due.is("no finding", x.told(3), 0);
    }

    private static void placesAtFirst() {
        for (int p = 0; p < 12; p++) {
            OrchardBook x = withSorts(1, 0);
            x.takes(0, 0, true);
            for (int q = 0; q < 12; q++) {
                x.plant(q, 1, 0, 0);
            }
            int near = Math.min(11, p + 3) - Math.max(0, p - 3) + 1;
            due.is("place " + p + " at " + p + ", 0 and three each way", x.partners(p, 0, 0), near);
            x.distance(1);
            due.is("one each way", x.partners(p, 0, 0), p == 0 || p == 11 ? 2 : 3);
            x.distance(15);
            due.is("all", x.partners(p, 0, 0), 12);
        }
    }

    private static int partnersAt(int x0, int y0, int x1, int y1, int distance) {
        OrchardBook x = withSorts(1, 0);
        x.takes(0, 0, true);
        x.at(0, x0, y0);
        x.at(1, x1, y1);
        x.distance(distance);
        x.plant(0, 1, 0, 0);
        x.plant(1, 1, 0, 0);
        return x.partners(0, 0, 0) - 1;
    }

    private static void nearByDistance() {
        for (int distance = 1; distance <= 15; distance++) {
            due.is("x differs by it", partnersAt(0, 7, distance, 7, distance), 1);
            due.is("y differs by it", partnersAt(7, 0, 7, distance, distance), 1);
            due.is("both differ by it", partnersAt(0, 0, distance, distance, distance), 1);
            if (distance < 15) {
                due.is("x differs by more", partnersAt(0, 7, distance + 1, 7, distance), 0);
                due.is("y differs by more", partnersAt(7, 0, 7, distance + 1, distance), 0);
            }
        }
    }

    private static void nearByBothWays() {
        due.is("on one spot", partnersAt(15, 15, 15, 15, 1), 1);
        due.is("x lower", partnersAt(15, 15, 12, 15, 3), 1);
        due.is("x lower by more", partnersAt(15, 15, 11, 15, 3), 0);
        due.is("y lower", partnersAt(9, 15, 9, 12, 3), 1);
        due.is("y lower by more", partnersAt(9, 15, 9, 11, 3), 0);
        due.is("x near, y not", partnersAt(3, 3, 4, 9, 3), 0);
        due.is("y near, x not", partnersAt(3, 3, 9, 4, 3), 0);
        due.is("corner to corner", partnersAt(0, 15, 15, 0, 15), 1);
        due.is("corner to corner", partnersAt(0, 15, 15, 0, 14), 0);
    }

    private static void woodZeroToNine() {
        OrchardBook x = withSorts(1, 9);
        for (int kind = 1; kind <= 4; kind++) {
            x.plant(kind, kind, 0, 0);
            due.is("3 at first", x.of(kind, 4), 3);
        }
        for (int year = 1; year <= 8; year++) {
            x.go(50);
            for (int kind = 1; kind <= 4; kind++) {
                due.is("one more, 9 at most", x.of(kind, 4), Math.min(9, 3 + year));
            }
        }
        due.is("9 less 9", x.cut(1, 9), 0);
        due.is("0 at least", x.cut(1, 9), 0);
        x.go(50);
        due.is("one more of 0", x.of(1, 4), 1);
        due.is("9 stays 9", x.of(2, 4), 9);
    }

    private static void heightAtMostSix() {
        OrchardBook x = withSorts(1, 9);
        x.go(50);
        x.plant(0, 1, 0, 0);
        x.plant(1, 2, 0, 0);
        x.plant(2, 4, 0, 0);
        for (int years = 0; years <= 8; years++) {
            for (int p = 0; p < 3; p++) {
                due.is("HEIGHT after " + years + " years", x.of(p, 6), Math.min(6, years));
                due.is("planted in year 1", x.of(p, 3), 1);
            }
            x.go(50);
        }
    }

    private static void heightOfTrained() {
        OrchardBook x = withSorts(1, 9);
        x.plant(0, 3, 0, 0);
        due.is("0 years ago", x.of(0, 6), 0);
        x.go(49);
        due.is("0 years ago on the last day", x.of(0, 6), 0);
        x.go(1);
        due.is("one", x.of(0, 6), 1);
        x.go(50);
        due.is("at most one", x.of(0, 6), 1);
    }

    private static void budsByFirst() {
        for (int first = 0; first <= 9; first++) {
            OrchardBook x = withSorts(1, first);
            x.plant(0, 1, 0, 0);
            for (int years = 0; years <= 9; years++) {
                int wood = Math.min(9, 3 + years);
                due.is("FIRST " + first + ", " + years + " years", x.of(0, 7), years < first ? 0 : 20 * wood);
                x.go(50);
            }
        }
        OrchardBook y = new OrchardBook();
        y.sort(0, 1, 0, 1, 0);
        y.sort(0, 1, 0, 1, 9);
        y.plant(0, 2, 0, 1);
        y.plant(1, 2, 1, 0);
        due.is("FIRST of the first sort: 0", y.of(0, 7), 60);
        due.is("FIRST of the first sort: 9", y.of(1, 7), 0);
    }

    /** A tree at 0 in year 1, with this LOAD, and WOOD 1. */
    private static OrchardBook loaded(int kind, int load) {
        OrchardBook x = withHelpers(kind);
        x.go(1);
        x.thin(0, kind == 2 ? load / 2 : load);
        x.go(49);
        due.is("LOAD", x.of(0, 5), load);
        due.is("WOOD", x.cut(0, 3), 1);
        return x;
    }

    private static void budsAreZeroAtLeast() {
        int[] loads = {0, 1, 2, 37, 38, 39, 40, 41, 42, 59, 60};
        int[] buds = {20, 20, 19, 2, 1, 1, 0, 0, 0, 0, 0};
        for (int k = 0; k < loads.length; k++) {
            OrchardBook x = loaded(1, loads[k]);
            due.is("BUDS with LOAD " + loads[k], x.of(0, 7), buds[k]);
            due.is("OPEN if it has BUDS", x.partners(0, 0, 0), buds[k] > 0 ? 3 : 0);
            due.is("a PARTNER if it has BUDS", x.partners(1, 0, 0), buds[k] > 0 ? 3 : 2);
            x.go(1);
            due.is("each BUD sets with three PARTNERS", x.fruits(0, 0), buds[k]);
        }
    }

    private static void budsOfTrained() {
        int[] loads = {34, 36, 38, 40, 42, 90};
        int[] buds = {4, 3, 1, 0, 0, 0};
        for (int k = 0; k < loads.length; k++) {
            due.is("half as much again, cut", loaded(3, loads[k]).of(0, 7), buds[k]);
        }
    }

    private static void partsOfOneBud() {
        OrchardBook x = loaded(2, 38);
        due.is("one BUD", x.of(0, 7), 1);
        due.is("the first part is OPEN: its tree has BUDS", x.partners(0, 0, 0), 4);
        due.is("the second too", x.partners(0, 1, 0), 4);
        due.is("both are PARTNERS", x.partners(1, 0, 0), 4);
        x.go(1);
        due.is("half of one is none", x.fruits(0, 0), 0);
        due.is("what is left is one", x.fruits(0, 1), 1);
        OrchardBook y = loaded(2, 40);
        due.is("no BUD", y.of(0, 7), 0);
        due.is("not OPEN", y.partners(0, 1, 0), 0);
        due.is("no PARTNERS", y.partners(1, 0, 0), 2);
    }

    private static void newObject() {
        OrchardBook x = new OrchardBook();
        due.is("no sorts", x.told(2), 0);
        for (int p = 0; p < 12; p++) {
            due.is("empty places", x.of(p, 0), 0);
            due.is("no thing", x.as(p, 1), Due.NONE);
        }
        due.is("an empty store", x.all(9), 0);
        due.is("year 0", x.told(0), 0);
        for (int s = 0; s < 4; s++) {
            due.is("sheets MISSING", x.copy(s, 0, s, 0, 0), Due.MISSING);
        }
        due.is("a year of none", x.go(50), 50);
        for (int what = 0; what < 10; what++) {
            due.is("of nothing comes nothing", x.all(what), 0);
        }
        due.is("another object is new too", new OrchardBook().told(0), 0);
    }

    private static void pullOfNothing() {
        OrchardBook x = new OrchardBook();
        due.is("0: it held nothing", x.pull(11, 0), 0);
        due.is("nothing still", x.of(11, 0), 0);
        due.is("0: it held nothing", x.pull(11, 1), 0);
        due.is("a GAP", x.of(11, 0), 5);
        due.is("of one year", x.of(11, 1), 1);
        due.is("it held a GAP", x.pull(11, 9), 5);
        due.is("of nine years", x.of(11, 1), 9);
        due.is("it held a GAP", x.pull(11, 0), 5);
        due.is("nothing", x.of(11, 0), 0);
        due.is("no finding", x.told(3), 0);
        due.is("no fruits went", x.all(5), 0);
    }

    private static void pullOfAllKinds() {
        OrchardBook x = withSorts(1, 0);
        x.takes(0, 0, true);
        x.distance(15);
        int[] fruits = {0, 60, 60, 90, 0};
        long went = 0;
        for (int kind = 1; kind <= 4; kind++) {
            x.plant(kind, kind, 0, 0);
        }
        x.go(1);
        for (int kind = 1; kind <= 4; kind++) {
            due.is("its kind", x.pull(kind, kind - 1), kind);
            went += fruits[kind];
            due.is("with its fruits, and those that went earlier", x.all(5), went);
        }
        due.is("n 0: nothing", x.of(1, 0), 0);
        due.is("n 3: a GAP of three", x.of(4, 1), 3);
        due.is("none is left", x.all(6), 0);
        x.go(49);
        due.is("none is LEFT", x.all(4), 0);
    }

    private static void gapYears() {
        OrchardBook x = new OrchardBook();
        for (int n = 1; n <= 9; n++) {
            x.pull(n, n);
        }
        for (int year = 1; year <= 10; year++) {
            x.go(49);
            due.is("a GAP until the year ends", year > 9 ? 0 : x.of(Math.min(9, year), 0), year > 9 ? 0 : 5);
            x.go(1);
            for (int n = 1; n <= 9; n++) {
                due.is("a GAP of one year is nothing then", x.of(n, 0), n > year ? 5 : 0);
                due.is("others have one year less", n > year ? x.of(n, 1) : 0, Math.max(0, n - year));
            }
        }
    }

    private static void asAndUnder() {
        OrchardBook x = withSorts(1, 0);
        for (int kind = 1; kind <= 4; kind++) {
            x.plant(12 - kind, kind, 0, 0);
            due.is("TREE, or under TREE: the place", x.as(12 - kind, 1), 12 - kind);
            due.is("its own kind: the place", x.as(12 - kind, kind), 12 - kind);
            due.is("no GAP", x.as(12 - kind, 5), Due.KIND);
        }
        x.plant(0, 4, 0, 0);
        due.is("place 0", x.as(0, 4), 0);
        due.is("PARTNER is not GRAFTED", x.as(0, 2), Due.KIND);
        x.pull(0, 1);
        due.is("a GAP", x.as(0, 5), 0);
    }

    private static void otherOneIsNoFinding() {
        OrchardBook x = withSorts(1, 0);
        for (int kind = 1; kind <= 4; kind++) {
            x.plant(kind, kind, 0, 0);
            due.is("-100 when there is none", x.of(kind, 2), kind == 2 ? 0 : Due.ABSENT);
        }
        due.is("the kind of nothing", x.of(0, 0), 0);
        due.is("no findings", x.told(3), 0);
    }

    private static void cutToZero() {
        for (int c = 0; c <= 9; c++) {
            OrchardBook x = withSorts(1, 0);
            x.plant(0, 3, 0, 0);
            due.is("3 less " + c + ", 0 at least", x.cut(0, c), Math.max(0, 3 - c));
            due.is("what it is then", x.of(0, 4), Math.max(0, 3 - c));
            due.is("BUDS", x.of(0, 7), 30 * Math.max(0, 3 - c));
        }
    }

    private static void loneByItself() {
        OrchardBook x = withSorts(2, 9);
        x.plant(0, 1, 0, 0);
        x.plant(4, 2, 0, 1);
        due.is("none takes any", x.lone(0) * 10 + x.lone(4), 11);
        x.takes(0, 1, true);
        due.is("its own tree's other one", x.lone(4), 0);
        due.is("not near", x.lone(0), 1);
        x.takes(0, 0, true);
        due.is("itself", x.lone(0), 0);
        x.takes(0, 0, false);
        x.takes(0, 1, false);
        x.takes(1, 1, true);
        due.is("its second part itself", x.lone(4), 0);
        due.is("no part", x.lone(0), 1);
    }

    private static void loneOnTheLastDays() {
        OrchardBook x = new OrchardBook();
        // Days 48 and 49 (and seven that are not), day 48 alone, day 49 (and eight that are not), never.
        x.sort(1421, 9, 0, 1, 0);
        x.sort(1421, 1, 0, 1, 0);
        x.sort(1475, 9, 0, 1, 0);
        x.sort(1476, 9, 0, 1, 0);
        for (int s = 0; s < 4; s++) {
            x.takes(s, 2, true);
        }
        x.takes(2, 2, false);
        x.takes(2, 3, true);
        x.plant(0, 1, 0, 0);
        x.plant(1, 1, 1, 0);
        x.plant(2, 1, 2, 0);
        x.plant(3, 1, 3, 0);
        due.is("together on day 49", x.lone(0), 0);
        due.is("day 48 and day 49", x.lone(1), 1);
        due.is("together behind day 49 alone", x.lone(2), 1);
        due.is("never in bloom", x.lone(3), 1);
    }

    private static void loneNeverInBloom() {
        OrchardBook x = new OrchardBook();
        x.sort(1476, 9, 0, 1, 0);
        x.takes(0, 0, true);
        x.plant(0, 1, 0, 0);
        x.plant(1, 2, 0, 0);
        due.is("itself never blooms", x.lone(0) * 10 + x.lone(1), 11);
        x.sheet(0, 1, 50);
        for (int day = 0; day < 25; day++) {
            x.put(0, day, 60);
        }
        x.name(0);
        due.is("by THE SHEET it blooms", x.blooms(0), 24);
        due.is("THE TABLE alone is asked", x.lone(0), 1);
    }

    private static void loneByPlaceZero() {
        OrchardBook x = withSorts(2, 0);
        x.takes(0, 1, true);
        x.plant(11, 1, 0, 0);
        due.is("alone", x.lone(11), 1);
        x.distance(11);
        x.plant(0, 4, 1, 0);
        due.is("by the tree of place 0", x.lone(11), 0);
        due.is("which is lone itself", x.lone(0), 1);
        x.pull(0, 1);
        due.is("a GAP is no PARTNER", x.lone(11), 1);
    }

    private static void bestOfNone() {
        OrchardBook x = new OrchardBook();
        x.sort(2000, 9, 0, 1, 0);
        x.takes(0, 0, true);
        for (int kind = 2; kind <= 4; kind++) {
            x.plant(kind, kind, 0, 0);
        }
        x.pull(5, 1);
        due.is("NONE: no TREES of kind 1", x.best(), Due.NONE);
        x.plant(0, 1, 0, 0);
        x.plant(1, 1, 0, 0);
        due.is("that never bloom: no PAIRS", x.best(), 0);
        due.is("a giving still", x.given(1), 0);
    }

    private static void bestGoesThroughAll() {
        OrchardBook x = withSorts(2, 0);
        x.takes(0, 1, true);
        x.takes(1, 0, true);
        x.plant(0, 1, 0, 0);
        x.plant(3, 1, 0, 0);
        x.plant(6, 1, 0, 0);
        due.is("0-3 and 3-6, both ways", x.best(), 4);
        due.is("0, 1, 0 ahead of 1, 0, 1", x.given(0) * 100 + x.given(3) * 10 + x.given(6), 10);
        x.takes(1, 1, true);
        due.is("all of sort 1, or 0, 1, 0, or ..", x.best(), 4);
        due.is("0, 1, 0 is the first", x.given(0) * 100 + x.given(3) * 10 + x.given(6), 10);
        x.takes(0, 1, false);
        x.takes(1, 0, false);
        due.is("all of sort 1: the last giving", x.best(), 4);
        due.is("1, 1, 1", x.given(0) * 100 + x.given(3) * 10 + x.given(6), 111);
        x.takes(1, 1, false);
        due.is("no PAIRS any more", x.best(), 0);
        due.is("0, 0, 0: nothing of the earlier giving", x.given(0) + x.given(3) + x.given(6), 0);
    }

    private static void bestOfTwelve() {
        OrchardBook x = withSorts(2, 0);
        x.takes(1, 1, true);
        x.distance(15);
        for (int p = 0; p < 12; p++) {
            x.plant(p, 1, 0, 0);
        }
        due.is("4096 givings, the last one", x.best(), 132);
        due.is("given to the first place", x.given(0), 1);
        due.is("given to the last place", x.given(11), 1);
        due.is("told again", x.best(), 132);
        x.sort(0, 1, 0, 1, 0);
        due.is("LONG: 531441 givings", x.best(), Due.LONG);
    }

    private static void givenSinceTheLatest() {
        OrchardBook x = withSorts(2, 0);
        x.plant(0, 1, 1, 0);
        x.best();
        due.is("told", x.given(0), 0);
        due.is("a refused act lets it stand", x.plant(0, 1, 0, 0), Due.TAKEN);
        due.is("told", x.given(0), 0);
        due.is("an act that was done, though nothing is new", x.takes(0, 0, false), 0);
        due.is("NONE", x.given(0), Due.NONE);
        due.is("NONE ahead of BEYOND", x.given(MAX), Due.NONE);
        x.best();
        x.hours(3);
        x.cut(0, 1);
        x.name(0);
        x.sheet(0, 1, 5);
        x.put(0, 1, 5);
        x.frost(5, 5, 5);
        x.thin(0, 0);
        x.take(0, 0);
        x.keep();
        x.go(50);
        due.is("no other act matters", x.given(0), 0);
        x.pull(0, 0);
        due.is("NONE", x.given(0), Due.NONE);
        x.plant(0, 1, 1, 0);
        x.best();
        x.back();
        due.is("given() tells NONE behind back()", x.given(0), Due.NONE);
    }

    private static void keepInPlace() {
        OrchardBook x = new OrchardBook();
        due.is("nothing is kept", x.back(), Due.NONE);
        due.is("year 0", x.keep(), 0);
        due.is("back at once", x.back(), 0);
        x.go(50);
        due.is("year 1, in place of what was", x.keep(), 1);
        x.go(30);
        due.is("year 1", x.back(), 1);
        due.is("no day is done", x.told(1), 0);
        x.go(50);
        due.is("which stays", x.back(), 1);
        due.is("and again", x.back(), 1);
        due.is("one finding", x.told(3), 1);
    }

    private static void backBySorts() {
        OrchardBook x = withSorts(2, 0);
        x.takes(0, 1, true);
        x.keep();
        x.takes(0, 1, false);
        x.sort(100, 1, 0, 1, 0);
        x.takes(2, 2, true);
        x.takes(1, 2, true);
        x.plant(0, 1, 2, 0);
        x.back();
        due.is("two sorts", x.told(2), 2);
        due.is("the third is none", x.takes(2, 2, true), Due.BEYOND);
        due.is("taken again", x.takes(0, 1, true), 0);
        due.is("not planted", x.of(0, 0), 0);
        due.is("another third", x.sort(5, 1, 0, 1, 0), 2);
        due.is("takes none at first", x.takes(2, 2, false), 0);
        due.is("is taken by none", x.takes(1, 2, false), 0);
        due.is("blooms by its own NEED", x.blooms(2), 0);
        due.is("its store is empty", x.store(2), 0);
    }

    private static void backInTheYear() {
        OrchardBook x = withSorts(1, 0);
        x.sheet(0, 1, 50);
        x.put(0, 0, 33);
        x.name(0);
        x.go(1);
        x.keep();
        x.put(0, 0, 44);
        x.put(0, 1, 22);
        x.name(-1);
        x.hours(7);
        x.distance(9);
        x.at(3, 9, 9);
        x.frost(5, 5, 5);
        x.go(50);
        due.is("the year", x.back(), 0);
        due.is("one day is done", x.told(1), 1);
        due.is("THE SHEET is named", x.told(4), 0);
        due.is("a done day's WARMTH is kept", x.warmth(0), 33);
        due.is("but sheets are not", x.warmth(1), 22);
        due.is("HOURS", x.hours(0), 0);
        due.is("THE DISTANCE", x.distance(3), 3);
        x.sheet(0, 0, 0);
        x.back();
        due.is("a MISSING sheet stays MISSING", x.put(0, 0, 0), Due.MISSING);
        due.is("and leaves THE TABLE", x.warmth(1), 6);
    }

    private static void toldOfFindings() {
        OrchardBook x = new OrchardBook();
        due.is("none", x.told(3), 0);
        due.is("this one, too, if it does", x.told(5), Due.BEYOND);
        due.is("one", x.told(3), 1);
        due.is("told(3) itself is none", x.told(3), 1);
        due.is("of a long answer", x.all(MIN), Due.BEYOND);
        due.is("two", x.told(3), 2);
        due.is("THE SHEET, for none", x.told(4), Due.ABSENT);
        x.keep();
        x.told(MAX);
        x.back();
        due.is("ever: back() takes none away", x.told(3), 3);
        x.name(0);
        due.is("THE SHEET 0", x.told(4), 0);
        x.name(-1);
        due.is("none again", x.told(4), Due.ABSENT);
        due.is("no finding", x.told(3), 3);
    }
}
