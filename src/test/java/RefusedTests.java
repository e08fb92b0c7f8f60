/** The findings that are not about a number's bounds, and in which order the findings of an act are asked. */
public final class RefusedTests {
    private static final Due due = new Due();
    private static final Twins bare = new Twins(due, Twins.Start.BARE);
    private static final Twins orchard = new Twins(due, Twins.Start.ORCHARD);
    private static final int MIN = Integer.MIN_VALUE;
    private static final int MAX = Integer.MAX_VALUE;
    /** In the twins' orchard: a tree of kind 1, a GRAFTED one, a TRAINED one, a GAP, and a place with nothing. */
    private static final int TREE = 0;
    private static final int GRAFTED = 6;
    private static final int TRAINED = 7;
    private static final int GAP = 9;
    private static final int NOTHING = 10;

    public static void main(String[] args) {
        theOrchard();
        taken();
        none();
        kind();
        missing();
        kindOfSheets();
        full();
        noneOfTheWhole();
        longGivings();
        due.end();
    }

    private static void theOrchard() {
        OrchardBook x = Twins.make(Twins.Start.ORCHARD);
        due.is("TREE", x.of(TREE, 0), 1);
        due.is("GRAFTED", x.of(GRAFTED, 0), 2);
        due.is("TRAINED", x.of(TRAINED, 0), 3);
        due.is("GAP", x.of(GAP, 0), 5);
        due.is("nothing", x.of(NOTHING, 0), 0);
        due.holds("fruits hang", x.all(6) > 0);
        due.holds("fruits are stored", x.all(9) > 0);
        due.holds("a giving is told", x.given(TREE) >= 0);
    }

    private static void taken() {
        orchard.refused("4 TAKEN: it holds a thing", Due.TAKEN, "at", TREE, 9, 9);
        orchard.refused("4 TAKEN: a GAP is a thing", Due.TAKEN, "at", GAP, 9, 9);
        orchard.refused("4 BEYOND ahead of TAKEN", Due.BEYOND, "at", TREE, 16, 9);
        orchard.refused("4 BEYOND ahead of TAKEN", Due.BEYOND, "at", TREE, 9, -1);
        orchard.refused("6 TAKEN: it holds a thing", Due.TAKEN, "plant", TREE, 1, 0, 0);
        orchard.refused("6 TAKEN: a GAP is a thing", Due.TAKEN, "plant", GAP, 2, 0, 1);
        orchard.refused("6 BEYOND ahead of TAKEN: kind", Due.BEYOND, "plant", TREE, 5, 0, 0);
        orchard.refused("6 BEYOND ahead of TAKEN: sort", Due.BEYOND, "plant", TREE, 1, 3, 0);
        orchard.refused("6 BEYOND ahead of TAKEN: other", Due.BEYOND, "plant", TREE, 2, 0, 3);
        orchard.refused("18 TAKEN: the day is done", Due.TAKEN, "frost", 0, 0, 0);
        orchard.refused("18 TAKEN: the latest day that is done", Due.TAKEN, "frost", 2, 6, 100);
        orchard.refused("18 BEYOND ahead of TAKEN", Due.BEYOND, "frost", 2, 7, 100);
        orchard.refused("18 BEYOND ahead of TAKEN", Due.BEYOND, "frost", 2, 6, 101);
    }

    private static void none() {
        for (int kind = 1; kind <= 5; kind++) {
            orchard.refused("8 NONE: it holds nothing", Due.NONE, "as", NOTHING, kind);
        }
        for (int what = 1; what <= 7; what++) {
            orchard.refused("9 NONE: it holds nothing", Due.NONE, "of", NOTHING, what);
        }
        orchard.refused("10 NONE", Due.NONE, "cut", NOTHING, 0);
        orchard.refused("19 NONE: it holds nothing", Due.NONE, "partners", NOTHING, 0, 0);
        orchard.refused("19 NONE ahead of KIND", Due.NONE, "partners", NOTHING, 1, 0);
        orchard.refused("21 NONE", Due.NONE, "fruits", NOTHING, 0);
        orchard.refused("21 NONE ahead of KIND", Due.NONE, "fruits", NOTHING, 1);
        orchard.refused("22 NONE", Due.NONE, "thin", NOTHING, 0);
        orchard.refused("27 NONE", Due.NONE, "lone", NOTHING);
        orchard.refused("8 BEYOND ahead of NONE", Due.BEYOND, "as", NOTHING, 6);
        orchard.refused("9 BEYOND ahead of NONE", Due.BEYOND, "of", NOTHING, 8);
        orchard.refused("10 BEYOND ahead of NONE", Due.BEYOND, "cut", NOTHING, 10);
        orchard.refused("19 BEYOND ahead of NONE: part", Due.BEYOND, "partners", NOTHING, 2, 0);
        orchard.refused("19 BEYOND ahead of NONE: day", Due.BEYOND, "partners", NOTHING, 0, 50);
        orchard.refused("21 BEYOND ahead of NONE", Due.BEYOND, "fruits", NOTHING, 2);
        orchard.refused("22 BEYOND ahead of NONE", Due.BEYOND, "thin", NOTHING, -1);
    }

    private static void kind() {
        for (int kind = 2; kind <= 5; kind++) {
            orchard.refused("8 KIND: a TREE is of no kind under it", Due.KIND, "as", TREE, kind);
        }
        for (int kind = 1; kind <= 4; kind++) {
            orchard.refused("8 KIND: a GAP", Due.KIND, "as", GAP, kind);
        }
        orchard.refused("8 KIND: GRAFTED is not TRAINED", Due.KIND, "as", GRAFTED, 3);
        orchard.refused("8 KIND: TRAINED is not GRAFTED", Due.KIND, "as", TRAINED, 2);
        for (int what = 2; what <= 7; what++) {
            orchard.refused("9 KIND: it is a GAP", Due.KIND, "of", GAP, what);
        }
        orchard.refused("9 BEYOND ahead of KIND", Due.BEYOND, "of", GAP, 8);
        orchard.refused("10 KIND: it is a GAP", Due.KIND, "cut", GAP, 0);
        orchard.refused("10 BEYOND ahead of KIND", Due.BEYOND, "cut", GAP, -1);
        orchard.refused("19 KIND: it is a GAP", Due.KIND, "partners", GAP, 0, 3);
        orchard.refused("19 KIND: it has no such part", Due.KIND, "partners", TREE, 1, 3);
        orchard.refused("19 KIND: no such part on a day without bloom", Due.KIND, "partners", TRAINED, 1, 49);
        orchard.refused("19 BEYOND ahead of KIND", Due.BEYOND, "partners", TREE, 1, 50);
        orchard.refused("21 KIND: it is a GAP", Due.KIND, "fruits", GAP, 0);
        orchard.refused("21 KIND: it has no such part", Due.KIND, "fruits", TRAINED, 1);
        orchard.refused("21 BEYOND ahead of KIND", Due.BEYOND, "fruits", GAP, -1);
        orchard.refused("22 KIND: it is a GAP", Due.KIND, "thin", GAP, MAX);
        orchard.refused("22 BEYOND ahead of KIND", Due.BEYOND, "thin", GAP, MIN);
        orchard.refused("27 KIND: it is a GAP", Due.KIND, "lone", GAP);
        orchard.refused("29 BEYOND: no TREE of kind 1", Due.BEYOND, "given", GRAFTED);
        orchard.refused("29 BEYOND: no TREE of kind 1", Due.BEYOND, "given", TRAINED);
        orchard.refused("29 BEYOND: no TREE of kind 1", Due.BEYOND, "given", GAP);
        orchard.refused("29 BEYOND: no TREE of kind 1", Due.BEYOND, "given", NOTHING);
    }

    private static void missing() {
        OrchardBook x = new OrchardBook();
        for (int s = 0; s < 4; s++) {
            due.is("12 MISSING", x.put(s, 0, 0), Due.MISSING);
            due.is("12 MISSING ahead of BEYOND", x.put(s, -1, 0), Due.MISSING);
        }
        due.is("12 BEYOND ahead of MISSING", x.put(4, 0, 0), Due.BEYOND);
        x.sheet(0, 1, 5);
        due.is("13 MISSING: the second is", x.copy(0, 0, 1, 0, 0), Due.MISSING);
        due.is("13 MISSING: the first is", x.copy(1, 0, 0, 0, 0), Due.MISSING);
        due.is("13 MISSING: both are", x.copy(1, 0, 1, 0, 0), Due.MISSING);
        due.is("13 MISSING ahead of BEYOND: from, to, n", x.copy(0, -1, 1, 99, MIN), Due.MISSING);
        due.is("13 BEYOND ahead of MISSING: the first", x.copy(-1, 0, 1, 0, 0), Due.BEYOND);
        due.is("13 BEYOND ahead of MISSING: the second", x.copy(1, 0, 4, 0, 0), Due.BEYOND);
        x.sheet(1, 1, 0);
        due.is("13 a sheet of none is not MISSING", x.copy(0, 0, 1, 0, 0), 0);
        due.is("12 a sheet of none is not MISSING", x.put(1, 0, 0), Due.BEYOND);
        x.sheet(1, 0, 0);
        due.is("13 MISSING again", x.copy(0, 0, 1, 0, 0), Due.MISSING);
        due.is("12 MISSING again", x.put(1, 0, 0), Due.MISSING);
        due.is("32 all were counted", x.told(3), 8 + 1 + 6 + 1 + 2);
    }

    private static void kindOfSheets() {
        OrchardBook x = new OrchardBook();
        x.sheet(0, 1, 5);
        x.sheet(1, 2, 5);
        due.is("13 KIND: shorts to floats", x.copy(0, 0, 1, 0, 1), Due.KIND);
        due.is("13 KIND: floats to shorts", x.copy(1, 0, 0, 0, 1), Due.KIND);
        due.is("13 KIND: none at all", x.copy(0, 0, 1, 0, 0), Due.KIND);
        due.is("13 KIND ahead of BEYOND: from", x.copy(0, -1, 1, 0, 1), Due.KIND);
        due.is("13 KIND ahead of BEYOND: n", x.copy(0, 0, 1, 0, 6), Due.KIND);
        x.sheet(1, 1, 5);
        due.is("13 of one kind now", x.copy(0, 0, 1, 0, 5), 5);
    }

    private static void full() {
        OrchardBook x = new OrchardBook();
        for (int s = 0; s < 6; s++) {
            due.is("2 its number", x.sort(0, 1, 0, 1, 0), s);
        }
        x.plant(0, 1, 0, 0);
        x.best();
        due.is("2 FULL: there are 6", x.sort(0, 1, 0, 1, 0), Due.FULL);
        due.is("29 a refused sort() lets the giving stand", x.given(0), 0);
        due.is("2 FULL again", x.sort(2000, 9, 2000, 60, 9), Due.FULL);
        due.is("2 BEYOND ahead of FULL: the first number", x.sort(-1, 1, 0, 1, 0), Due.BEYOND);
        due.is("2 BEYOND ahead of FULL: the last number", x.sort(0, 1, 0, 1, 10), Due.BEYOND);
        due.is("2 six", x.told(2), 6);
        due.is("3 the sixth is a sort", x.takes(5, 5, true), 1);
        due.is("3 a seventh is none", x.takes(5, 6, true), Due.BEYOND);
        due.is("32 counted", x.told(3), 5);
    }

    private static void noneOfTheWhole() {
        OrchardBook x = new OrchardBook();
        due.is("31 NONE: nothing is kept", x.back(), Due.NONE);
        due.is("29 NONE: it told none", x.given(0), Due.NONE);
        due.is("29 NONE ahead of BEYOND", x.given(12), Due.NONE);
        due.is("29 NONE ahead of BEYOND", x.given(MIN), Due.NONE);
        due.is("28 NONE: there are no sorts", x.best(), Due.NONE);
        due.is("17 BEYOND: no sorts yet", x.blooms(0), Due.BEYOND);
        due.is("24 BEYOND: no sorts yet", x.store(0), Due.BEYOND);
        due.is("25 BEYOND: no sorts yet", x.take(0, 0), Due.BEYOND);
        due.is("6 BEYOND: no sorts yet", x.plant(0, 1, 0, 0), Due.BEYOND);
        due.is("3 BEYOND: no sorts yet", x.takes(0, 0, false), Due.BEYOND);
        x.sort(0, 1, 0, 1, 0);
        due.is("28 NONE: no such trees", x.best(), Due.NONE);
        due.is("32 each was counted", x.told(3), 11);
        bare.refused("28 NONE: no such trees", Due.NONE, "best");
        bare.refused("29 NONE: it told none", Due.NONE, "given", 0);
        OrchardBook y = new OrchardBook();
        y.sort(0, 1, 0, 1, 0);
        y.plant(0, 1, 0, 0);
        y.best();
        due.is("31 NONE", y.back(), Due.NONE);
        due.is("29 a refused back() lets the giving stand", y.given(0), 0);
        due.is("31 and the tree", y.of(0, 0), 1);
    }

    private static void longGivings() {
        OrchardBook x = new OrchardBook();
        x.sort(0, 1, 0, 1, 0);
        x.sort(0, 1, 0, 1, 0);
        x.sort(0, 1, 0, 1, 0);
        for (int p = 0; p < 8; p++) {
            x.plant(p, 1, 0, 0);
        }
        due.is("28 LONG: 6561 givings", x.best(), Due.LONG);
        due.is("28 LONG again", x.best(), Due.LONG);
        due.is("29 NONE: LONG is no giving", x.given(0), Due.NONE);
        due.is("32 counted", x.told(3), 3);
        x.pull(7, 0);
        due.is("28 2187 givings", x.best(), 0);
        due.is("29 told", x.given(6), 0);
    }
}
