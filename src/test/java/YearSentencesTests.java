/**
 * The boundary cases of sheets, warmth, days and years: terms 2 and promises 11 to 26.
 * Each method is one sentence of the document.
 */
public final class YearSentencesTests {
    private static final Due due = new Due();
    private static final int MIN = Integer.MIN_VALUE;
    private static final int MAX = Integer.MAX_VALUE;
    private static final int NAN = Float.floatToRawIntBits(Float.NaN);

    public static void main(String[] args) {
        sheetOfNone();
        sheetAnew();
        putLowestBits();
        copyEdges();
        warmthByTheSheetsEnd();
        warmthOfBounds();
        warmthOfNoNumbers();
        sumOfBounds();
        bloomsByNeed();
        bloomsUpToTheLastDay();
        frostOfTheDay();
        frostShares();
        frostHeights();
        frostsAreGone();
        partnersThreeAtMost();
        setIsCut();
        goToTheYearsEnd();
        ripeByRipening();
        ripeByNoWarmth();
        ripeBehindTheBloom();
        pickedByHours();
        pickedOneByOne();
        pickedFromAllParts();
        storeOfAllSorts();
        dropsATenth();
        spoilsByKeeping();
        spoilsInLaterYears();
        takesTheOldest();
        takesNoMoreThanThere();
        thinsAboveN();
        leftOverYears();
        loadOfTheYear();
        due.end();
    }

    private static int bits(float number) {
        return Float.floatToRawIntBits(number);
    }

    /** One sort that takes itself, and a TREE with two PARTNERS beside it: all of 60 flowers set on the first day. */
    private static OrchardBook full(int need, int ripening, int keeping) {
        OrchardBook x = new OrchardBook();
        x.sort(need, 1, ripening, keeping, 0);
        x.takes(0, 0, true);
        x.plant(0, 1, 0, 0);
        x.plant(1, 4, 0, 0);
        x.plant(2, 4, 0, 0);
        return x;
    }

    /** Each of its numbers is this warmth. */
    private static void warm(OrchardBook x, int sheet, int warmth) {
        x.sheet(sheet, 1, 50);
        for (int day = 0; day < 50; day++) {
            x.put(sheet, day, warmth);
        }
    }

    private static void sheetOfNone() {
        OrchardBook x = new OrchardBook();
        for (int kind = 1; kind <= 2; kind++) {
            due.is("n 0", x.sheet(0, kind, 0), 0);
            due.is("it has no number 0", x.put(0, 0, 1), Due.BEYOND);
            x.name(0);
            due.is("so THE TABLE's", x.warmth(0), 5);
            due.is("none of none", x.copy(0, 0, 0, 0, 0), 0);
            due.is("one of none", x.copy(0, 0, 0, 0, 1), Due.BEYOND);
            due.is("n 1", x.sheet(0, kind, 1), 1);
            due.is("it has a number 0", x.put(0, 0, 0), 0);
            due.is("and no number 1", x.put(0, 1, 0), Due.BEYOND);
            due.is("n 50", x.sheet(0, kind, 50), 50);
            due.is("it has a number 49", x.put(0, 49, 0), 0);
            due.is("and no number 50", x.put(0, 50, 0), Due.BEYOND);
            due.is("kind 0", x.sheet(0, 0, 50), 0);
            due.is("MISSING", x.put(0, 0, 0), Due.MISSING);
        }
    }

    private static void sheetAnew() {
        OrchardBook x = new OrchardBook();
        warm(x, 1, 40);
        x.name(1);
        due.is("40 each", x.sum(49), 2000);
        x.sheet(1, 1, 50);
        due.is("all 0 anew", x.sum(49), 0);
        due.is("number 0 too", x.warmth(0), 0);
        warm(x, 1, 40);
        x.sheet(1, 2, 3);
        x.put(1, 1, NAN);
        due.is("floats that are 0 are numbers", x.put(1, 0, bits(20f)), 0);
        due.is("the mean of 20 and 0", x.warmth(1), 10);
        x.put(1, 0, 0);
        x.put(1, 2, bits(20f));
        due.is("the mean of 0 and 20", x.warmth(1), 10);
        x.sheet(1, 0, 0);
        x.sheet(1, 1, 50);
        due.is("all 0 behind MISSING", x.sum(49), 0);
    }

    private static void putLowestBits() {
        int[] puts = {32767, 32768, 65535, 65536, 65537, -1, -32768, -32769, -65536, -65535, MIN, MAX, MIN + 31, 131102};
        int[] warmths = {60, 0, 0, 0, 1, 0, 0, 60, 0, 1, 0, 0, 31, 30};
        OrchardBook x = new OrchardBook();
        x.sheet(0, 1, 1);
        x.name(0);
        for (int k = 0; k < puts.length; k++) {
            x.put(0, 0, puts[k]);
            due.is("the lowest bits of " + puts[k], x.warmth(0), warmths[k]);
        }
    }

    private static OrchardBook numbered() {
        OrchardBook x = new OrchardBook();
        x.sheet(0, 1, 50);
        x.sheet(1, 1, 10);
        for (int i = 0; i < 50; i++) {
            x.put(0, i, i);
        }
        return x;
    }

    private static void copyEdges() {
        OrchardBook x = numbered();
        due.is("one more than the second has", x.copy(0, 0, 1, 0, 11), Due.BEYOND);
        due.is("one more than the first has", x.copy(1, 0, 0, 0, 11), Due.BEYOND);
        due.is("the first has not so many from there", x.copy(0, 41, 1, 0, 10), Due.BEYOND);
        due.is("from + n wraps around", x.copy(0, MAX, 1, 0, MAX), Due.BEYOND);
        due.is("to + n wraps around", x.copy(0, 0, 1, MAX, 2), Due.BEYOND);
        due.is("n MIN", x.copy(0, 0, 1, 0, MIN), Due.BEYOND);
        due.is("the last ones", x.copy(0, 40, 1, 0, 10), 10);
        x.name(1);
        due.is("from 40", x.warmth(0) * 100 + x.warmth(9), 4049);
        due.is("none, from the ends", x.copy(0, 50, 1, 10, 0), 0);
        due.is("none, from behind the first's end", x.copy(0, 51, 1, 10, 0), Due.BEYOND);
        due.is("none, to behind the second's end", x.copy(0, 50, 1, 11, 0), Due.BEYOND);
        due.is("all onto itself", x.copy(0, 0, 0, 0, 50), 50);
        x.name(0);
        due.is("unchanged", x.sum(49), 1225);
        due.is("up by one, over itself", x.copy(0, 0, 0, 1, 49), 49);
        due.is("each as it was", x.warmth(0) * 10000 + x.warmth(1) * 100 + x.warmth(49), 48);
        due.is("down by two, over itself", x.copy(0, 2, 0, 0, 48), 48);
        due.is("each as it was", x.warmth(0) * 10000 + x.warmth(47) * 100 + x.warmth(49), 14848);
    }

    private static void warmthByTheSheetsEnd() {
        OrchardBook x = new OrchardBook();
        for (int n = 0; n <= 50; n += 10) {
            x.sheet(0, 1, n);
            x.name(0);
            if (n > 0) {
                due.is("its last number", x.warmth(n - 1), 0);
            }
            if (n < 50) {
                due.is("it has no such number", x.warmth(n), 5 + n);
            }
        }
        x.sheet(0, 0, 0);
        due.is("MISSING", x.warmth(0) * 100 + x.warmth(49), 554);
        x.name(-1);
        due.is("none is named", x.warmth(0) * 100 + x.warmth(49), 554);
    }

    private static void warmthOfBounds() {
        OrchardBook x = new OrchardBook();
        x.sheet(0, 1, 1);
        x.name(0);
        for (int v = -2; v <= 63; v++) {
            x.put(0, 0, v);
            due.is("the short " + v, x.warmth(0), Math.max(0, Math.min(60, v)));
        }
        x.sheet(1, 2, 1);
        x.name(1);
        for (int v = -2; v <= 63; v++) {
            x.put(1, 0, bits(v));
            due.is("the float " + v, x.warmth(0), Math.max(0, Math.min(60, v)));
            x.put(1, 0, bits(Math.nextDown((float) v)));
            due.is("just below the float " + v, x.warmth(0), Math.max(0, Math.min(60, v - 1)));
        }
    }

    private static void warmthOfNoNumbers() {
        OrchardBook x = new OrchardBook();
        x.sheet(0, 2, 50);
        x.name(0);
        x.put(0, 0, NAN);
        x.put(0, 1, bits(33.9f));
        x.put(0, 49, 0xffffffff);
        x.put(0, 48, bits(-7f));
        due.is("the first has one neighbour", x.warmth(0), 33);
        due.is("the last has one neighbour, bounded", x.warmth(49), 0);
        x.put(0, 48, bits(61f));
        due.is("bounded above", x.warmth(49), 60);
        x.put(0, 47, bits(31.99f));
        x.put(0, 48, 0x7f800001);
        due.is("of two one is a number", x.warmth(48), 31);
        due.is("of none 0", x.warmth(49), 0);
        x.put(0, 49, bits(30.99f));
        due.is("the mean of 31 and 30, cut", x.warmth(48), 30);
        x.put(0, 47, bits(Float.NEGATIVE_INFINITY));
        x.put(0, 49, bits(Float.POSITIVE_INFINITY));
        due.is("the mean of 0 and 60", x.warmth(48), 30);
        x.sheet(0, 2, 1);
        x.put(0, 0, NAN);
        due.is("alone in its sheet", x.warmth(0), 0);
        x.go(1);
        x.put(0, 0, bits(9f));
        due.is("as it was when it was done", x.warmth(0), 0);
    }

    private static void sumOfBounds() {
        OrchardBook x = new OrchardBook();
        due.is("day 0", x.sum(0), 5);
        due.is("day 49", x.sum(49), 1475);
        warm(x, 0, 32767);
        x.name(0);
        due.is("60 on day 0", x.sum(0), 60);
        due.is("60 on each day", x.sum(49), 3000);
        x.go(49);
        x.name(-1);
        due.is("done days and one that is not", x.sum(49), 49 * 60 + 54);
        x.go(1);
        due.is("a new year", x.sum(49), 1475);
    }

    private static void bloomsByNeed() {
        int[] needs = {0, 1, 5, 6, 11, 12, 1421, 1422, 1475, 1476, 2000};
        int[] days = {0, 0, 0, 1, 1, 2, 48, 49, 49, Due.NONE, Due.NONE};
        for (int k = 0; k < needs.length; k++) {
            OrchardBook x = new OrchardBook();
            x.sort(needs[k], 9, 0, 1, 0);
            due.is("NEED " + needs[k], x.blooms(0), days[k]);
            due.is("NONE is a finding", x.told(3), days[k] < 0 ? 1 : 0);
        }
        OrchardBook y = new OrchardBook();
        y.sort(2000, 1, 0, 1, 0);
        warm(y, 0, 40);
        y.name(0);
        due.is("NEED 2000 on the last day", y.blooms(0), 49);
        y.put(0, 0, 39);
        due.is("one too few", y.blooms(0), Due.NONE);
        warm(y, 0, 60);
        due.is("33 days are 1980, 34 are 2040", y.blooms(0), 33);
        warm(y, 0, 0);
        y.sort(0, 1, 0, 1, 0);
        due.is("NEED 0 without warmth", y.blooms(1), 0);
    }

    private static void bloomsUpToTheLastDay() {
        OrchardBook x = new OrchardBook();
        x.sort(1475, 9, 0, 1, 0);
        x.sort(5, 9, 0, 1, 0);
        x.sort(5, 1, 0, 1, 0);
        for (int s = 0; s < 3; s++) {
            x.takes(s, s, true);
            x.plant(s, 1, s, 0);
        }
        due.is("not the day ahead", x.partners(0, 0, 48), 0);
        due.is("the last day", x.partners(0, 0, 49), 1);
        due.is("LENGTH 9: its first day", x.partners(1, 0, 0), 1);
        due.is("its ninth", x.partners(1, 0, 8), 1);
        due.is("no tenth", x.partners(1, 0, 9), 0);
        due.is("LENGTH 1: its day", x.partners(2, 0, 0), 1);
        due.is("no second", x.partners(2, 0, 1), 0);
        x.go(50);
        due.is("not on the next year's days", x.partners(0, 0, 0), 0);
        long set = x.all(0);
        x.pull(1, 0);
        x.pull(2, 0);
        x.go(49);
        due.is("none is set there", x.all(0), set);
    }

    private static void frostOfTheDay() {
        OrchardBook x = full(0, 2000, 1);
        due.is("day 0", x.frost(0, 6, 100), 1);
        due.is("an earlier one of that day is gone", x.frost(0, 6, 50), 1);
        due.is("that of day 1 is another", x.frost(1, 6, 100), 1);
        x.go(1);
        due.is("half", x.fruits(0, 0), 30);
        due.is("TAKEN: the day is done", x.frost(0, 6, 0), Due.TAKEN);
        due.is("the next day is not", x.frost(1, 6, 0), 1);
        x.go(48);
        due.is("day 48 is done", x.frost(48, 6, 0), Due.TAKEN);
        due.is("day 49 is not", x.frost(49, 6, 0), 1);
        x.go(1);
        due.is("in a new year none is done", x.frost(0, 6, 0), 1);
        due.is("nor the last", x.frost(49, 6, 0), 1);
    }

    private static void frostShares() {
        int[] shares = {0, 1, 2, 49, 50, 51, 99, 100};
        // Of 60 flowers: 0, 0.6, 1.2, 29.4, 30, 30.6, 59.4 and 60, rounded up.
        int[] left = {60, 59, 58, 30, 30, 29, 0, 0};
        for (int k = 0; k < shares.length; k++) {
            OrchardBook x = full(0, 2000, 1);
            x.frost(0, 0, shares[k]);
            x.go(1);
            due.is("a share of " + shares[k], x.fruits(0, 0), left[k]);
        }
    }

    /** In year 6: a TREE of 180 flowers at 0, a TRAINED one of 270 at 1, with three PARTNERS each. */
    private static OrchardBook grown() {
        OrchardBook x = new OrchardBook();
        x.sort(0, 1, 2000, 1, 6);
        x.takes(0, 0, true);
        x.plant(0, 1, 0, 0);
        x.plant(1, 3, 0, 0);
        x.plant(2, 4, 0, 0);
        for (int year = 0; year < 6; year++) {
            for (int day = 0; day < 50; day += 7) {
                x.frost(day, 6, 100);
            }
            x.go(50);
        }
        due.is("BUDS", x.of(0, 7) * 1000 + x.of(1, 7), 180270);
        return x;
    }

    private static void frostHeights() {
        for (int height = 0; height <= 6; height++) {
            OrchardBook x = grown();
            x.frost(0, height, 100);
            x.go(1);
            due.is("HEIGHT 6 in a frost of " + height, x.fruits(0, 0), height < 6 ? 180 : 0);
            due.is("HEIGHT 1 in a frost of " + height, x.fruits(1, 0), height < 1 ? 270 : 0);
        }
        OrchardBook y = grown();
        y.frost(0, 6, 99);
        y.go(1);
        due.is("178.2 rounded up", y.fruits(0, 0), 1);
        due.is("267.3 rounded up", y.fruits(1, 0), 2);
        OrchardBook young = full(0, 2000, 1);
        young.frost(0, 0, 100);
        young.go(1);
        due.is("HEIGHT 0 in a frost of 0", young.fruits(0, 0), 0);
    }

    private static void frostsAreGone() {
        OrchardBook x = grown();
        x.go(1);
        due.is("that of day 0 is gone with its year", x.fruits(0, 0) * 1000 + x.fruits(1, 0), 180270);
        OrchardBook y = full(1475, 0, 1);
        y.frost(49, 6, 100);
        y.go(50);
        due.is("the last day's frost", y.all(0), 0);
        y.go(50);
        due.is("is gone with its year", y.all(0), 80);
    }

    private static void partnersThreeAtMost() {
        for (int others = 0; others <= 11; others++) {
            OrchardBook x = new OrchardBook();
            x.sort(0, 1, 2000, 1, 0);
            x.sort(0, 1, 2000, 1, 0);
            x.takes(0, 1, true);
            x.distance(15);
            x.plant(11, 1, 0, 0);
            for (int p = 0; p < others; p++) {
                x.plant(p, 4, 1, 0);
            }
            due.is("all PARTNERS are told", x.partners(11, 0, 0), others);
            x.go(1);
            due.is("three at most set", x.fruits(11, 0), 20 * Math.min(3, others));
            due.is("a PARTNER's part sets none", x.all(0), 20 * Math.min(3, others));
        }
    }

    private static void setIsCut() {
        for (int length = 1; length <= 9; length++) {
            for (int partners = 1; partners <= 3; partners++) {
                OrchardBook x = new OrchardBook();
                x.sort(0, length, 2000, 1, 0);
                x.takes(0, 0, true);
                x.plant(0, 1, 0, 0);
                for (int p = 1; p < partners; p++) {
                    x.plant(p, 4, 0, 0);
                }
                x.go(1);
                int set = 60 / length * partners / 3;
                due.is("60 by " + length + ", times " + partners + " by 3", x.fruits(0, 0), set);
                x.go(length);
                due.is("on LENGTH days, not on the day behind them", x.fruits(0, 0), set * length);
            }
        }
    }

    private static void goToTheYearsEnd() {
        for (int done = 0; done < 50; done += 7) {
            OrchardBook x = new OrchardBook();
            due.is("ahead", done == 0 ? 0 : x.go(done), done);
            due.is("no more than the year has", x.go(50), 50 - done);
            due.is("the next year, no day", x.told(0) * 100 + x.told(1), 100);
        }
        OrchardBook y = new OrchardBook();
        for (int day = 1; day < 50; day++) {
            due.is("one by one", y.go(1), 1);
            due.is("done", y.told(1), day);
        }
        due.is("the last day", y.go(2), 1);
        due.is("a year", y.told(0), 1);
        y.name(1);
        due.is("named", y.told(4), 1);
        y.go(49);
        due.is("named until the year ends", y.told(4), 1);
        y.go(1);
        due.is("named no more", y.told(4), Due.ABSENT);
    }

    /** The first day on whose end fruits are in the store; -1 for none in the year. */
    private static int firstPicked(int need, int length, int ripening, int warmth) {
        OrchardBook x = new OrchardBook();
        x.sort(need, length, ripening, 60, 0);
        x.takes(0, 0, true);
        x.plant(0, 1, 0, 0);
        x.hours(1);
        if (warmth >= 0) {
            warm(x, 0, warmth);
            x.name(0);
        }
        for (int day = 0; day < 50; day++) {
            x.go(1);
            if (x.store(0) > 0) {
                return day;
            }
        }
        return -1;
    }

    private static void ripeByRipening() {
        due.is("RIPENING 0: behind the last day of bloom", firstPicked(0, 1, 0, -1), 1);
        due.is("not while it blooms", firstPicked(0, 9, 0, -1), 9);
        due.is("6 on day 1 are enough", firstPicked(0, 1, 6, -1), 1);
        due.is("7 are not there before day 2", firstPicked(0, 1, 7, -1), 2);
        due.is("13 on day 2", firstPicked(0, 1, 13, -1), 2);
        due.is("14 on day 3", firstPicked(0, 1, 14, -1), 3);
        due.is("1470 on day 49", firstPicked(0, 1, 1470, -1), 49);
        due.is("1471 never", firstPicked(0, 1, 1471, -1), -1);
        due.is("2000 by 60 a day: 34 days", firstPicked(0, 1, 2000, 60), 34);
        due.is("1980 by 60 a day: 33 days", firstPicked(0, 1, 1980, 60), 33);
        due.is("1981 by 60 a day", firstPicked(0, 1, 1981, 60), 34);
    }

    private static void ripeByNoWarmth() {
        due.is("RIPENING 0 without warmth", firstPicked(0, 1, 0, 0), 1);
        due.is("RIPENING 1 without warmth", firstPicked(0, 1, 1, 0), -1);
        due.is("no bloom without warmth", firstPicked(1, 1, 0, 0), -1);
        due.is("no bloom by THE TABLE", firstPicked(1476, 1, 0, -1), -1);
    }

    private static void ripeBehindTheBloom() {
        due.is("bloom on day 48 alone", firstPicked(1421, 1, 0, -1), 49);
        due.is("its last day is day 49", firstPicked(1421, 2, 0, -1), -1);
        due.is("its last day would be behind day 49", firstPicked(1421, 3, 0, -1), -1);
        due.is("bloom on day 49", firstPicked(1475, 1, 0, -1), -1);
        OrchardBook x = full(1475, 0, 60);
        x.hours(1000);
        x.go(50);
        due.is("set on day 49", x.all(0), 60);
        due.is("and LEFT", x.all(4), 60);
        x.go(1);
        due.is("not picked in the next year", x.all(2), 0);
    }

    private static void pickedByHours() {
        int[] hours = {0, 1, 59, 60, 61, 1000};
        for (int h : hours) {
            OrchardBook x = full(0, 0, 60);
            due.is("HOURS are 0 at first", x.hours(h), 0);
            x.go(2);
            int picked = Math.min(h, 60);
            due.is("HOURS " + h, x.all(2), picked);
            due.is("what is left, less a tenth", x.fruits(0, 0), (60 - picked) * 9 / 10);
            due.is("what they were", x.hours(0), h);
        }
    }

    private static void pickedOneByOne() {
        OrchardBook x = full(0, 0, 60);
        x.go(1);
        x.thin(0, 1);
        x.hours(5);
        x.go(1);
        due.is("a part with one fruit", x.store(0), 1);
        due.is("none is left to drop", x.all(3), 0);
        x.go(1);
        due.is("of none nothing", x.all(2), 1);
    }

    private static void pickedFromAllParts() {
        for (int hours = 23; hours <= 25; hours++) {
            OrchardBook x = new OrchardBook();
            x.sort(0, 1, 0, 60, 0);
            x.takes(0, 0, true);
            for (int p = 0; p < 12; p++) {
                x.plant(p, 2, 0, 0);
            }
            x.go(1);
            for (int p = 0; p < 12; p++) {
                x.thin(p, 1);
            }
            due.is("one on each of 24 parts", x.all(6), 24);
            x.hours(hours);
            x.go(1);
            due.is("again and again while hours are left", x.store(0), Math.min(24, hours));
            due.is("what no hour was left for drops", x.all(3), hours < 24 ? 1 : 0);
        }
    }

    private static void storeOfAllSorts() {
        OrchardBook x = new OrchardBook();
        x.sort(0, 1, 0, 60, 0);
        x.sort(0, 1, 0, 2, 0);
        for (int pair = 0; pair < 4; pair++) {
            x.takes(pair / 2, pair % 2, true);
        }
        x.distance(15);
        for (int p = 0; p < 12; p++) {
            x.plant(p, 3, p % 2, 0);
        }
        x.hours(1000);
        x.go(2);
        due.is("six trees of the first sort", x.store(0), 540);
        due.is("five of the second, and 10", x.store(1), 460);
        due.is("1000 fruits in all", x.all(9), 1000);
        due.is("80 less 8", x.fruits(11, 0), 72);
        x.go(1);
        due.is("no room", x.all(2), 1000);
        due.is("72 less 8", x.fruits(11, 0), 64);
        due.is("one is taken out", x.take(0, 1), 1);
        due.is("of the other sort, too", x.take(1, 1), 1);
        due.is("998", x.all(9), 998);
        x.hours(1);
        x.go(1);
        due.is("the second sort spoils ahead of picking", x.all(7), 459);
        due.is("HOURS 1", x.store(1), 1);
        due.is("540", x.store(0) + x.store(1), 540);
    }

    private static void dropsATenth() {
        int[] counts = {0, 1, 2, 9, 10, 11, 19, 20, 21, 30, 31, 60};
        int[] drops = {0, 1, 1, 1, 1, 2, 2, 2, 3, 3, 4, 6};
        for (int k = 0; k < counts.length; k++) {
            OrchardBook x = full(0, 0, 60);
            x.go(1);
            due.is("none drops ahead of ripeness", x.all(3), 0);
            x.thin(0, counts[k]);
            x.go(1);
            due.is("a tenth of " + counts[k] + ", rounded up", x.all(3), drops[k]);
            due.is("what is left", x.fruits(0, 0), counts[k] - drops[k]);
        }
        OrchardBook y = full(0, 7, 60);
        y.go(2);
        due.is("none drops that is not ripe", y.all(3), 0);
        y.go(1);
        due.is("ripe on day 2", y.all(3), 6);
    }

    private static void spoilsByKeeping() {
        for (int keeping = 1; keeping <= 40; keeping += 13) {
            OrchardBook x = full(0, 0, keeping);
            x.hours(4);
            x.go(2);
            x.hours(0);
            if (keeping > 1) {
                x.go(keeping - 1);
            }
            due.is("one day less than KEEPING " + keeping, x.store(0), 4);
            due.is("none spoiled", x.all(7), 0);
            x.go(1);
            due.is("as many days as KEEPING " + keeping, x.store(0), 0);
            due.is("spoiled", x.all(7), 4);
        }
    }

    private static void spoilsInLaterYears() {
        OrchardBook x = full(1421, 0, 1);
        x.hours(20);
        x.go(50);
        due.is("picked on day 49", x.store(0), 20);
        x.go(1);
        due.is("KEEPING 1: gone on day 0", x.store(0), 0);
        OrchardBook y = full(1421, 0, 60);
        y.hours(20);
        y.go(50);
        warm(y, 0, 0);
        y.name(0);
        y.go(50);
        due.is("a year without bloom", y.store(0), 20);
        y.name(0);
        y.go(9);
        due.is("for 59 days", y.store(0), 20);
        y.go(1);
        due.is("for 60 days", y.store(0), 0);
        due.is("spoiled", y.all(7), 20);
    }

    private static void takesTheOldest() {
        OrchardBook x = full(1421, 0, 60);
        x.hours(5);
        x.go(50);
        due.is("five of day 49", x.store(0), 5);
        warm(x, 0, 60);
        x.name(0);
        due.is("day 23", x.blooms(0), 23);
        x.go(25);
        due.is("five of the next year's day 24", x.store(0), 10);
        x.hours(0);
        due.is("three of the oldest", x.take(0, 3), 3);
        x.go(25);
        x.go(9);
        due.is("for 59 days", x.store(0), 7);
        x.go(1);
        due.is("two of the oldest were left to spoil", x.all(7), 2);
        due.is("the younger ones stay", x.store(0), 5);
        due.is("over two days' fruits", x.take(0, 5), 5);
    }

    private static void takesNoMoreThanThere() {
        OrchardBook x = full(0, 0, 60);
        x.hours(10);
        due.is("none is there", x.take(0, 1), 0);
        x.go(3);
        due.is("20 are there", x.store(0), 20);
        due.is("none is asked for", x.take(0, 0), 0);
        due.is("fewer than asked for", x.take(0, 21), 20);
        due.is("none is left", x.take(0, MAX), 0);
        x.go(1);
        due.is("just as many", x.take(0, 10), 10);
        due.is("taken out", x.all(8), 30);
        due.is("none in the store", x.all(9), 0);
        due.is("no finding", x.told(3), 0);
    }

    private static void thinsAboveN() {
        int[] ns = {0, 1, 59, 60, 61, MAX};
        for (int n : ns) {
            OrchardBook x = full(0, 2000, 1);
            due.is("of none", x.thin(0, n), 0);
            x.go(1);
            due.is("more than " + n, x.thin(0, n), Math.max(0, 60 - n));
            due.is("have n then", x.fruits(0, 0), Math.min(60, n));
            due.is("not twice", x.thin(0, n), 0);
            due.is("thinned", x.all(1), Math.max(0, 60 - n));
            due.is("a PARTNER has none", x.thin(1, 0), 0);
        }
        OrchardBook y = new OrchardBook();
        y.sort(0, 1, 2000, 1, 0);
        y.sort(0, 1, 2000, 1, 0);
        y.takes(0, 0, true);
        y.takes(0, 1, true);
        y.takes(1, 1, true);
        y.plant(0, 2, 0, 1);
        y.go(1);
        due.is("30 with two PARTNERS, and with one", y.fruits(0, 0) * 100 + y.fruits(0, 1), 2010);
        due.is("the first part alone has more", y.thin(0, 10), 10);
        due.is("ten each", y.fruits(0, 0) * 100 + y.fruits(0, 1), 1010);
    }

    private static void leftOverYears() {
        OrchardBook x = full(0, 2000, 60);
        x.go(49);
        due.is("none is LEFT while the year lasts", x.all(4), 0);
        x.go(1);
        due.is("LEFT", x.all(4), 60);
        x.go(50);
        // BUDS of year 1: 80 less half of 60.
        due.is("LEFT over both years", x.all(4), 60 + 50);
        due.is("set over both years", x.all(0), 60 + 50);
        due.is("none on trees", x.all(6), 0);
    }

    private static void loadOfTheYear() {
        OrchardBook x = full(0, 2000, 60);
        x.go(1);
        x.thin(0, 31);
        due.is("LOAD as at first", x.of(0, 5), 0);
        due.is("BUDS as before", x.of(0, 7), 60);
        x.go(49);
        due.is("set less thinned", x.of(0, 5), 31);
        due.is("80 less half of 31, cut", x.of(0, 7), 65);
        x.sort(1, 1, 0, 1, 0);
        x.plant(8, 1, 1, 0);
        x.go(50);
        due.is("set in the year alone", x.of(0, 5), 65);
        due.is("another that had no PARTNERS", x.of(8, 5), 0);
        x.pull(1, 0);
        x.pull(2, 0);
        x.takes(0, 0, false);
        x.go(50);
        due.is("a year without PARTNERS", x.of(0, 5), 0);
        due.is("20 times WOOD", x.of(0, 7), 120);
    }
}
