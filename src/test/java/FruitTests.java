/** Promises 19 to 26, and how a day is done and a year ends. */
public final class FruitTests {
    private static final Due due = new Due();
    private static final int MIN = Integer.MIN_VALUE;
    private static final int MAX = Integer.MAX_VALUE;

    public static void main(String[] args) {
        partners();
        partnersOfParts();
        partnersByDays();
        go();
        setByPartners();
        setOfGrafted();
        fruits();
        thin();
        hours();
        pickersOrder();
        roomOfTheStore();
        spoiledAheadOfPicked();
        ripe();
        ripeNever();
        drops();
        storeAndKeeping();
        keepingOverYears();
        take();
        all();
        yearEnds();
        due.end();
    }

    /** One sort that takes itself, open on day 0 alone and ripe from day 1 on. */
    private static OrchardBook plain(int keeping) {
        OrchardBook x = new OrchardBook();
        due.is("sort", x.sort(0, 1, 0, keeping, 0), 0);
        due.is("takes", x.takes(0, 0, true), 1);
        return x;
    }

    private static void partners() {
        OrchardBook x = plain(1);
        x.plant(0, 1, 0, 0);
        x.plant(1, 2, 0, 0);
        x.pull(2, 1);
        due.is("19 place -1", x.partners(-1, 0, 0), Due.BEYOND);
        due.is("19 place 12", x.partners(12, 0, 0), Due.BEYOND);
        due.is("19 part -1", x.partners(0, -1, 0), Due.BEYOND);
        due.is("19 part 2", x.partners(0, 2, 0), Due.BEYOND);
        due.is("19 day -1", x.partners(0, 0, -1), Due.BEYOND);
        due.is("19 day 50", x.partners(0, 0, 50), Due.BEYOND);
        due.is("19 BEYOND ahead of NONE", x.partners(3, 0, 50), Due.BEYOND);
        due.is("19 nothing", x.partners(3, 0, 0), Due.NONE);
        due.is("19 nothing, part 1", x.partners(3, 1, 0), Due.NONE);
        due.is("19 GAP", x.partners(2, 0, 0), Due.KIND);
        due.is("19 no such part", x.partners(0, 1, 0), Due.KIND);
        due.is("19 itself and two parts", x.partners(0, 0, 0), 3);
        due.is("19 part 1", x.partners(1, 1, 0), 3);
        due.is("19 not OPEN", x.partners(0, 0, 1), 0);
        x.plant(3, 4, 0, 0);
        due.is("19 more than three are told", x.partners(0, 0, 0), 4);
        due.is("19 of a PARTNER", x.partners(3, 0, 0), 4);
    }

    private static void partnersOfParts() {
        OrchardBook x = new OrchardBook();
        x.sort(0, 2, 0, 1, 0);
        x.sort(0, 2, 0, 1, 0);
        x.sort(0, 2, 0, 1, 1);
        x.takes(0, 1, true);
        x.plant(0, 2, 0, 1);
        due.is("19 its own tree's other one", x.partners(0, 0, 0), 1);
        due.is("19 one way alone", x.partners(0, 1, 0), 0);
        x.plant(3, 4, 1, 0);
        due.is("19 near", x.partners(0, 0, 0), 2);
        x.plant(4, 1, 1, 0);
        due.is("19 not near", x.partners(0, 0, 0), 2);
        x.takes(0, 2, true);
        x.plant(1, 1, 2, 0);
        due.is("19 near, without BUDS", x.partners(0, 0, 0), 2);
        x.plant(2, 2, 1, 2);
        due.is("19 parts of one near", x.partners(0, 0, 0), 4);
        x.go(50);
        due.is("19 near, with BUDS", x.partners(0, 0, 0), 5);
        x.takes(0, 1, false);
        due.is("19 as things stand", x.partners(0, 0, 0), 2);
    }

    private static void partnersByDays() {
        OrchardBook x = new OrchardBook();
        x.sort(5, 3, 0, 1, 0);
        x.sort(18, 3, 0, 1, 0);
        x.takes(0, 1, true);
        x.takes(1, 0, true);
        x.plant(0, 1, 0, 0);
        x.plant(1, 1, 1, 0);
        int[] wants = {0, 0, 1, 0, 0, 0};
        for (int day = 0; day < wants.length; day++) {
            due.is("19 on day " + day, x.partners(0, 0, day), wants[day]);
            due.is("19 on day " + day, x.partners(1, 0, day), wants[day]);
        }
        x.sheet(0, 1, 1);
        x.put(0, 0, 18);
        x.name(0);
        due.is("19 by THE SHEET", x.partners(0, 0, 0), 1);
        x.go(1);
        x.name(-1);
        due.is("19 by a done day", x.partners(0, 0, 0), 1);
    }

    private static void go() {
        OrchardBook x = new OrchardBook();
        due.is("20 0", x.go(0), Due.BEYOND);
        due.is("20 -1", x.go(-1), Due.BEYOND);
        due.is("20 51", x.go(51), Due.BEYOND);
        due.is("20 49", x.go(49), 49);
        due.is("20 days done", x.told(1), 49);
        due.is("20 year", x.told(0), 0);
        due.is("20 one is left", x.go(50), 1);
        due.is("20 days done", x.told(1), 0);
        due.is("20 year", x.told(0), 1);
        due.is("20 50", x.go(50), 50);
        due.is("20 year", x.told(0), 2);
        due.is("20 1", x.go(1), 1);
        due.is("20 days done", x.told(1), 1);
    }

    private static void setByPartners() {
        for (int others = 0; others <= 4; others++) {
            OrchardBook x = new OrchardBook();
            x.sort(0, 7, 0, 1, 0);
            x.sort(0, 9, 0, 1, 0);
            x.takes(0, 1, true);
            x.distance(15);
            x.plant(11, 1, 0, 0);
            for (int p = 0; p < others; p++) {
                x.plant(p, 4, 1, 0);
            }
            x.go(1);
            // 60 buds by 7 days are 8 flowers.
            due.is("20 set with " + others, x.fruits(11, 0), 8 * Math.min(3, others) / 3);
            due.is("20 a PARTNER sets none", x.all(0), 8 * Math.min(3, others) / 3);
        }
        OrchardBook y = plain(1);
        y.plant(0, 4, 0, 0);
        y.plant(1, 1, 0, 0);
        y.go(1);
        due.is("20 a PARTNER sets none", y.fruits(0, 0), 0);
        due.is("20 60 flowers, two PARTNERS", y.fruits(1, 0), 40);
    }

    private static void setOfGrafted() {
        OrchardBook x = new OrchardBook();
        x.sort(0, 1, 2000, 1, 0);
        x.sort(0, 1, 2000, 1, 0);
        x.takes(0, 0, true);
        x.takes(0, 1, true);
        x.takes(1, 1, true);
        x.takes(1, 0, true);
        x.plant(0, 2, 0, 1);
        x.plant(1, 4, 0, 0);
        x.go(1);
        due.is("20 half of 60", x.fruits(0, 0), 30);
        due.is("20 half of 60", x.fruits(0, 1), 30);
        due.is("22 one of two parts", x.thin(0, 9), 42);
        x.go(49);
        due.is("LOAD of both parts", x.of(0, 5), 18);
        due.is("BUDS", x.of(0, 7), 71);
        x.go(1);
        due.is("20 half of 71", x.fruits(0, 0), 35);
        due.is("20 what is left of 71", x.fruits(0, 1), 36);
    }

    private static void fruits() {
        OrchardBook x = plain(1);
        x.plant(0, 1, 0, 0);
        x.plant(4, 2, 0, 0);
        x.pull(1, 1);
        due.is("21 place -1", x.fruits(-1, 0), Due.BEYOND);
        due.is("21 place 12", x.fruits(12, 0), Due.BEYOND);
        due.is("21 part -1", x.fruits(0, -1), Due.BEYOND);
        due.is("21 part 2", x.fruits(0, 2), Due.BEYOND);
        due.is("21 BEYOND ahead of NONE", x.fruits(2, 2), Due.BEYOND);
        due.is("21 nothing", x.fruits(2, 0), Due.NONE);
        due.is("21 GAP", x.fruits(1, 0), Due.KIND);
        due.is("21 no such part", x.fruits(0, 1), Due.KIND);
        due.is("21 none yet", x.fruits(0, 0), 0);
        x.go(1);
        due.is("21 set", x.fruits(0, 0), 20);
        due.is("21 set", x.fruits(4, 1), 20);
    }

    private static void thin() {
        OrchardBook x = plain(1);
        x.plant(0, 1, 0, 0);
        x.plant(4, 2, 0, 0);
        x.pull(1, 1);
        due.is("22 place -1", x.thin(-1, 0), Due.BEYOND);
        due.is("22 place 12", x.thin(12, 0), Due.BEYOND);
        due.is("22 n -1", x.thin(0, -1), Due.BEYOND);
        due.is("22 nothing", x.thin(2, 0), Due.NONE);
        due.is("22 GAP", x.thin(1, 0), Due.KIND);
        x.go(1);
        due.is("22 as many", x.thin(0, 20), 0);
        due.is("22 far more", x.thin(0, MAX), 0);
        due.is("22 one more than n", x.thin(0, 19), 1);
        due.is("22 left", x.fruits(0, 0), 19);
        due.is("22 both parts", x.thin(4, 5), 30);
        due.is("22 all thinned", x.all(1), 31);
        due.is("22 set stays", x.all(0), 60);
        due.is("22 to none", x.thin(0, 0), 19);
        x.go(49);
        due.is("22 LOAD is less by it", x.of(0, 5), 0);
        due.is("22 LOAD is less by it", x.of(4, 5), 10);
    }

    private static void hours() {
        OrchardBook x = plain(60);
        x.plant(0, 1, 0, 0);
        due.is("23 -1", x.hours(-1), Due.BEYOND);
        due.is("23 1001", x.hours(1001), Due.BEYOND);
        due.is("23 were 0", x.hours(1000), 0);
        due.is("23 were 1000", x.hours(3), 1000);
        x.go(1);
        due.is("23 none is ripe on its last day of bloom", x.all(2), 0);
        x.go(1);
        due.is("23 three", x.all(2), 3);
        x.go(1);
        due.is("23 three each day", x.all(2), 6);
        due.is("23 were 3", x.hours(0), 3);
        x.go(1);
        due.is("23 no hours", x.all(2), 6);
        x.hours(7);
        x.go(46);
        due.is("23 hours stay with the year", x.hours(7), 7);
    }

    private static void pickersOrder() {
        OrchardBook x = new OrchardBook();
        x.sort(0, 1, 0, 60, 0);
        x.sort(0, 1, 0, 60, 0);
        for (int a = 0; a < 4; a++) {
            x.takes(a / 2, a % 2, true);
        }
        x.distance(15);
        x.plant(0, 2, 0, 1);
        x.plant(1, 1, 0, 0);
        x.plant(2, 1, 1, 0);
        x.plant(3, 2, 1, 0);
        x.go(1);
        due.is("23 fruits", x.fruits(0, 0) + 100 * x.fruits(1, 0), 6030);
        x.hours(70);
        x.go(1);
        due.is("23 the most first, of two the first place", x.fruits(1, 0), 0);
        due.is("23 then the next: 50 less 5", x.fruits(2, 0), 45);
        due.is("23 none of the lesser: 30 less 3", x.fruits(0, 0), 27);
        x.thin(2, 27);
        x.hours(30);
        x.go(1);
        due.is("23 of several the first place and part", x.fruits(0, 0), 0);
        due.is("23 then its other part: 24 less 3", x.fruits(0, 1), 21);
        due.is("23 not the tree behind: 27 less 3", x.fruits(2, 0), 24);
        due.is("23 of the first sort", x.store(0), 60 + 27);
        due.is("23 of the second sort", x.store(1), 10 + 3);
    }

    private static void roomOfTheStore() {
        OrchardBook x = plain(60);
        x.distance(15);
        for (int p = 0; p < 12; p++) {
            x.plant(p, 3, 0, 0);
        }
        due.is("19 all twelve", x.partners(0, 0, 0), 12);
        x.go(1);
        due.is("20 three at most count", x.all(0), 1080);
        x.hours(999);
        x.go(1);
        due.is("24 999", x.store(0), 999);
        due.is("24 81 less 9", x.fruits(11, 0), 72);
        x.go(1);
        due.is("24 room for one", x.store(0), 1000);
        due.is("24 71 less 8", x.fruits(11, 0), 63);
        x.go(1);
        due.is("24 no room", x.all(2), 1000);
        due.is("24 63 less 7", x.fruits(11, 0), 56);
        due.is("25 taken", x.take(0, 50), 50);
        x.go(1);
        due.is("24 room for 50", x.all(2), 1050);
        due.is("24 6 less 1", x.fruits(11, 0), 5);
        due.is("24 full", x.all(9), 1000);
    }

    private static void spoiledAheadOfPicked() {
        OrchardBook x = plain(1);
        x.distance(15);
        for (int p = 0; p < 12; p++) {
            x.plant(p, 3, 0, 0);
        }
        x.hours(1000);
        x.go(3);
        due.is("24 what spoils makes room that day", x.all(7), 1000);
        due.is("24 80 less 8", x.store(0), 72);
    }

    private static void ripe() {
        OrchardBook x = new OrchardBook();
        x.sort(0, 2, 15, 60, 0);
        x.sort(0, 2, 16, 60, 0);
        x.takes(0, 0, true);
        x.takes(1, 1, true);
        x.plant(0, 1, 0, 0);
        x.plant(1, 1, 1, 0);
        x.hours(1000);
        x.go(3);
        // Behind day 1, the last of bloom: 7 on day 2, 8 on day 3, 9 on day 4.
        due.is("20 7 are too few", x.all(2), 0);
        x.go(1);
        due.is("20 15 are enough for the first", x.store(0), 20);
        due.is("20 15 are too few for the second", x.store(1), 0);
        x.go(1);
        due.is("20 24 are enough for the second", x.store(1), 20);
    }

    private static void ripeNever() {
        OrchardBook x = new OrchardBook();
        // Day 48's SUM is 1421: bloom on days 48 and 49, and on day 48 alone, and on day 48 and three that are not.
        x.sort(1421, 2, 0, 60, 0);
        x.sort(1421, 1, 0, 60, 0);
        x.sort(1421, 4, 0, 60, 0);
        for (int s = 0; s < 3; s++) {
            x.takes(s, s, true);
            x.plant(s * 4, 1, s, 0);
        }
        x.hours(1000);
        x.go(49);
        due.is("20 none yet", x.all(2), 0);
        due.is("20 set on day 48", x.all(0), 10 + 20 + 5);
        x.go(1);
        due.is("20 ripe on day 49", x.all(2), 20);
        due.is("20 set on day 49", x.all(0), 40 + 10);
        due.is("20 LEFT", x.all(4), 20 + 10);
        due.is("20 a year without bloom", x.sheet(0, 1, 50), 50);
        x.name(0);
        x.go(50);
        due.is("20 none is set", x.all(0), 50);
    }

    private static void drops() {
        OrchardBook x = plain(1);
        x.plant(0, 1, 0, 0);
        x.go(1);
        int[] left = {18, 16, 14, 12, 10, 9, 8, 7, 6, 5, 4, 3, 2, 1, 0, 0};
        for (int k = 0; k < left.length; k++) {
            x.go(1);
            due.is("20 a tenth drops, rounded up", x.fruits(0, 0), left[k]);
        }
        due.is("26 dropped", x.all(3), 20);
        x.go(33);
        due.is("LOAD counts what dropped", x.of(0, 5), 20);
    }

    private static void storeAndKeeping() {
        OrchardBook x = plain(2);
        x.plant(0, 1, 0, 0);
        due.is("24 -1", x.store(-1), Due.BEYOND);
        due.is("24 1", x.store(1), Due.BEYOND);
        due.is("24 none", x.store(0), 0);
        x.hours(3);
        x.go(2);
        due.is("24 day 1", x.store(0), 3);
        x.hours(2);
        x.go(1);
        due.is("24 day 2: for one day", x.store(0), 5);
        x.hours(1);
        x.go(1);
        due.is("24 day 3: for two days", x.store(0), 3);
        due.is("26 spoiled", x.all(7), 3);
        x.hours(0);
        x.go(1);
        due.is("24 day 4", x.store(0), 1);
        x.go(1);
        due.is("24 day 5", x.store(0), 0);
        due.is("26 spoiled", x.all(7), 6);
    }

    private static void keepingOverYears() {
        OrchardBook x = plain(60);
        x.plant(0, 1, 0, 0);
        x.hours(5);
        x.go(2);
        x.hours(0);
        x.go(48);
        due.is("24 a new year", x.store(0), 5);
        x.go(11);
        due.is("24 for 59 days", x.store(0), 5);
        x.go(1);
        due.is("24 for 60 days", x.store(0), 0);
        due.is("26 spoiled", x.all(7), 5);
        x.go(38);
        x.go(50);
        x.go(50);
        due.is("26 spoiled once", x.all(7), 5);
        due.is("24 none", x.store(0), 0);
    }

    private static void take() {
        OrchardBook x = plain(3);
        x.plant(0, 1, 0, 0);
        due.is("25 sort -1", x.take(-1, 0), Due.BEYOND);
        due.is("25 sort 1", x.take(1, 0), Due.BEYOND);
        due.is("25 n -1", x.take(0, -1), Due.BEYOND);
        due.is("25 n far below", x.take(0, MIN), Due.BEYOND);
        due.is("25 none there", x.take(0, MAX), 0);
        x.hours(3);
        x.go(4);
        due.is("25 of days 1 to 3", x.store(0), 9);
        due.is("25 none", x.take(0, 0), 0);
        due.is("25 four, the oldest first", x.take(0, 4), 4);
        due.is("25 left", x.store(0), 5);
        x.hours(0);
        x.go(1);
        due.is("25 of day 1 none is left to spoil", x.all(7), 0);
        x.go(1);
        due.is("25 of day 2 two spoil", x.all(7), 2);
        due.is("25 fewer", x.take(0, 99), 3);
        due.is("26 taken out", x.all(8), 7);
        x.go(1);
        due.is("25 none is left to spoil", x.all(7), 2);
    }

    private static void all() {
        OrchardBook x = plain(1);
        due.is("26 -1", x.all(-1), Due.BEYOND);
        due.is("26 10", x.all(10), Due.BEYOND);
        due.is("26 findings", x.told(3), 2);
        x.plant(0, 1, 0, 0);
        x.plant(4, 1, 0, 0);
        x.plant(8, 1, 0, 0);
        x.go(1);
        x.thin(0, 15);
        x.pull(4, 0);
        x.hours(6);
        x.go(1);
        x.take(0, 1);
        // Of place 0: 15 less 2. Of place 8: 20 less 6, less 2.
        long[] wants = {60, 5, 6, 4, 0, 20, 25, 0, 1, 5};
        for (int what = 0; what < wants.length; what++) {
            due.is("26 all(" + what + ")", x.all(what), wants[what]);
        }
        x.hours(0);
        x.go(48);
        due.is("26 spoiled", x.all(7), 5);
        due.is("26 none is left on trees", x.all(6), 0);
        due.is("26 none is left in the store", x.all(9), 0);
        due.is("26 dropped", x.all(3), 29);
        x.go(1);
        // BUDS are 80 less half of 15, and 80 less half of 20: 73 and 70 by 3.
        due.is("26 over all years", x.all(0), 60 + 24 + 23);
    }

    private static void yearEnds() {
        OrchardBook x = new OrchardBook();
        x.sort(0, 1, 2000, 60, 0);
        x.takes(0, 0, true);
        x.plant(0, 1, 0, 0);
        x.plant(4, 4, 0, 0);
        x.cut(4, 9);
        x.go(49);
        due.is("20 on trees", x.fruits(0, 0), 20);
        due.is("20 LOAD is last year's", x.of(0, 5), 0);
        x.go(1);
        due.is("20 gone", x.fruits(0, 0), 0);
        due.is("20 LEFT", x.all(4), 20);
        due.is("20 LOAD", x.of(0, 5), 20);
        due.is("20 WOOD", x.of(0, 4), 4);
        due.is("20 WOOD", x.of(4, 4), 1);
        due.is("20 LOAD of a PARTNER", x.of(4, 5), 0);
        x.go(50);
        due.is("20 LOAD is that of one year", x.of(0, 5), 70 / 3);
        for (int k = 0; k < 9; k++) {
            x.go(50);
        }
        due.is("20 WOOD: 9 at most", x.of(0, 4), 9);
    }
}
