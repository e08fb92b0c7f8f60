/** Promises 11 to 18. */
public final class SheetsAndWarmthTests {
    private static final Due due = new Due();
    private static final int MIN = Integer.MIN_VALUE;
    private static final int MAX = Integer.MAX_VALUE;
    private static final int NAN = Float.floatToRawIntBits(Float.NaN);

    public static void main(String[] args) {
        sheet();
        put();
        copy();
        name();
        warmthOfTable();
        warmthOfShorts();
        warmthOfFloats();
        warmthOfNoNumbers();
        warmthOfDoneDays();
        sum();
        blooms();
        frost();
        frostOnTrees();
        due.end();
    }

    private static void sheet() {
        OrchardBook x = new OrchardBook();
        due.is("11 sheet -1", x.sheet(-1, 1, 1), Due.BEYOND);
        due.is("11 sheet 4", x.sheet(4, 1, 1), Due.BEYOND);
        due.is("11 kind -1", x.sheet(0, -1, 1), Due.BEYOND);
        due.is("11 kind 3", x.sheet(0, 3, 1), Due.BEYOND);
        due.is("11 BEYOND ahead of SIZE", x.sheet(0, 3, -1), Due.BEYOND);
        due.is("11 n -1", x.sheet(0, 1, -1), Due.SIZE);
        due.is("11 n far below", x.sheet(0, 2, MIN), Due.SIZE);
        due.is("11 n 51", x.sheet(0, 1, 51), Due.BEYOND);
        due.is("11 n far above", x.sheet(0, 2, MAX), Due.BEYOND);
        due.is("11 MISSING still", x.put(0, 0, 0), Due.MISSING);
        due.is("11 none", x.sheet(0, 1, 0), 0);
        due.is("11 not MISSING", x.put(0, 0, 0), Due.BEYOND);
        due.is("11 all", x.sheet(3, 2, 50), 50);
        x.name(3);
        due.is("11 all 0", x.warmth(49), 0);
        x.put(3, 49, Float.floatToRawIntBits(7f));
        due.is("11 7", x.warmth(49), 7);
        due.is("11 anew", x.sheet(3, 2, 50), 50);
        due.is("11 all 0 anew", x.warmth(49), 0);
        due.is("11 kind 0", x.sheet(3, 0, 7), 0);
        due.is("11 kind 0, n below 0", x.sheet(3, 0, -1), Due.SIZE);
        due.is("11 kind 0, n 51", x.sheet(3, 0, 51), Due.BEYOND);
        due.is("11 MISSING", x.put(3, 0, 0), Due.MISSING);
        due.is("11 a MISSING sheet leaves THE TABLE", x.warmth(49), 54);
        due.is("11 it is named still", x.told(4), 3);
    }

    private static void put() {
        OrchardBook x = new OrchardBook();
        x.sheet(0, 1, 3);
        due.is("12 sheet -1", x.put(-1, 0, 0), Due.BEYOND);
        due.is("12 sheet 4", x.put(4, 0, 0), Due.BEYOND);
        due.is("12 MISSING ahead of BEYOND", x.put(1, 99, 0), Due.MISSING);
        due.is("12 i -1", x.put(0, -1, 0), Due.BEYOND);
        due.is("12 i 3", x.put(0, 3, 0), Due.BEYOND);
        due.is("12 i far", x.put(0, MIN, 0), Due.BEYOND);
        x.name(0);
        due.is("12 ordinary", x.put(0, 2, 33), 0);
        due.is("12 33", x.warmth(2), 33);
        due.is("12 lowest bits", x.put(0, 2, 65536 + 9), 0);
        due.is("12 9", x.warmth(2), 9);
        due.is("12 lowest bits below 0", x.put(0, 2, 32768), 0);
        due.is("12 0", x.warmth(2), 0);
        due.is("12 lowest bits of one below 0", x.put(0, 2, -65536 + 12), 0);
        due.is("12 12", x.warmth(2), 12);
    }

    private static void copy() {
        OrchardBook x = new OrchardBook();
        x.sheet(0, 1, 5);
        x.sheet(1, 1, 3);
        x.sheet(2, 2, 5);
        due.is("13 s -1", x.copy(-1, 0, 0, 0, 1), Due.BEYOND);
        due.is("13 t 4", x.copy(0, 0, 4, 0, 1), Due.BEYOND);
        due.is("13 BEYOND ahead of MISSING", x.copy(3, 0, 4, 0, 1), Due.BEYOND);
        due.is("13 s MISSING", x.copy(3, 0, 0, 0, 1), Due.MISSING);
        due.is("13 t MISSING", x.copy(0, 0, 3, 0, 1), Due.MISSING);
        due.is("13 MISSING ahead of KIND", x.copy(2, 0, 3, -1, 1), Due.MISSING);
        due.is("13 KIND ahead of BEYOND", x.copy(0, -1, 2, 0, 1), Due.KIND);
        due.is("13 from -1", x.copy(0, -1, 1, 0, 1), Due.BEYOND);
        due.is("13 to -1", x.copy(0, 0, 1, -1, 1), Due.BEYOND);
        due.is("13 n -1", x.copy(0, 0, 1, 0, -1), Due.BEYOND);
        due.is("13 s has not so many", x.copy(0, 3, 1, 0, 3), Due.BEYOND);
        due.is("13 t has not so many", x.copy(0, 0, 1, 1, 3), Due.BEYOND);
        due.is("13 wraps around", x.copy(0, MAX, 1, 0, 1), Due.BEYOND);
        due.is("13 wraps around", x.copy(0, 1, 1, 0, MAX), Due.BEYOND);
        due.is("13 wraps around", x.copy(0, 0, 1, MAX, MAX), Due.BEYOND);
        due.is("13 none", x.copy(0, 5, 1, 3, 0), 0);
        due.is("13 none, from behind the end", x.copy(0, 6, 1, 3, 0), Due.BEYOND);
        for (int i = 0; i < 5; i++) {
            x.put(0, i, 10 + i);
        }
        due.is("13 ordinary", x.copy(0, 1, 1, 0, 3), 3);
        x.name(1);
        due.is("13 copied", x.warmth(0) * 10000 + x.warmth(1) * 100 + x.warmth(2), 111213);
        due.is("13 over itself, up", x.copy(0, 0, 0, 1, 4), 4);
        x.name(0);
        due.is("13 as they were", x.warmth(1) * 100 + x.warmth(4), 1013);
        due.is("13 over itself, down", x.copy(0, 1, 0, 0, 4), 4);
        due.is("13 as they were", x.warmth(0) * 10000 + x.warmth(3) * 100 + x.warmth(4), 101313);
        x.sheet(1, 2, 5);
        x.put(2, 0, Float.floatToRawIntBits(8.5f));
        x.put(2, 1, NAN);
        due.is("13 floats", x.copy(2, 0, 1, 3, 2), 2);
        x.name(1);
        due.is("13 a float", x.warmth(3), 8);
        due.is("13 no number", x.warmth(4), 8);
    }

    private static void name() {
        OrchardBook x = new OrchardBook();
        due.is("14 -2", x.name(-2), Due.BEYOND);
        due.is("14 4", x.name(4), Due.BEYOND);
        due.is("14 a MISSING one", x.name(3), 1);
        due.is("14 is THE SHEET", x.told(4), 3);
        due.is("14 THE TABLE's", x.warmth(0), 5);
        x.sheet(3, 1, 1);
        due.is("14 the sheet's", x.warmth(0), 0);
        due.is("14 0", x.name(0), 1);
        due.is("14 none", x.name(-1), 1);
        due.is("14 THE TABLE's", x.warmth(0), 5);
        x.name(3);
        x.go(50);
        due.is("14 named no more", x.told(4), Due.ABSENT);
    }

    private static void warmthOfTable() {
        OrchardBook x = new OrchardBook();
        due.is("15 -1", x.warmth(-1), Due.BEYOND);
        due.is("15 50", x.warmth(50), Due.BEYOND);
        for (int day = 0; day < 50; day++) {
            due.is("15 THE TABLE", x.warmth(day), 5 + day);
        }
    }

    private static void warmthOfShorts() {
        OrchardBook x = new OrchardBook();
        x.sheet(0, 1, 4);
        x.name(0);
        x.put(0, 0, -1);
        x.put(0, 1, 60);
        x.put(0, 2, 61);
        x.put(0, 3, 32767);
        due.is("15 below 0", x.warmth(0), 0);
        due.is("15 60", x.warmth(1), 60);
        due.is("15 above 60", x.warmth(2), 60);
        due.is("15 far above", x.warmth(3), 60);
        due.is("15 not in the sheet", x.warmth(4), 9);
    }

    private static void warmthOfFloats() {
        OrchardBook x = new OrchardBook();
        x.sheet(0, 2, 1);
        x.name(0);
        float[] numbers = {0f, -0f, 0.999f, 1f, 1.5f, -0.5f, -1f, 2.99f, 31.999998f, 32f, 59.999996f, 60f, 60.9f, 61f,
            63.99f, 64f, 1e10f, Float.MAX_VALUE, -Float.MAX_VALUE, Float.MIN_VALUE, Float.POSITIVE_INFINITY,
            Float.NEGATIVE_INFINITY, 7.0000005f, 15.75f, 16.25f, 3.1415927f};
        for (float number : numbers) {
            x.put(0, 0, Float.floatToRawIntBits(number));
            due.is("15 " + number, x.warmth(0), Math.max(0, Math.min(60, (int) number)));
        }
    }

    private static void warmthOfNoNumbers() {
        OrchardBook x = new OrchardBook();
        x.sheet(0, 2, 4);
        x.name(0);
        int[] noNumbers = {NAN, 0x7f800001, 0xff800001, -1, 0x7fffffff, 0xffc00000};
        for (int bits : noNumbers) {
            x.put(0, 0, Float.floatToRawIntBits(10.9f));
            x.put(0, 1, bits);
            x.put(0, 2, Float.floatToRawIntBits(21.9f));
            due.is("15 the neighbours cut, their mean cut", x.warmth(1), 15);
            x.put(0, 0, Float.floatToRawIntBits(-99f));
            x.put(0, 2, Float.floatToRawIntBits(Float.POSITIVE_INFINITY));
            due.is("15 the neighbours bounded", x.warmth(1), 30);
            x.put(0, 0, bits);
            due.is("15 the neighbour behind alone", x.warmth(1), 60);
            due.is("15 at the sheet's start, none", x.warmth(0), 0);
            x.put(0, 0, Float.floatToRawIntBits(13f));
            x.put(0, 2, bits);
            due.is("15 the neighbour ahead alone", x.warmth(1), 13);
            x.put(0, 3, Float.floatToRawIntBits(20f));
            due.is("15 one neighbour", x.warmth(2), 20);
            x.put(0, 3, bits);
            due.is("15 at the sheet's end, none", x.warmth(3), 0);
            due.is("15 THE TABLE is no neighbour", x.warmth(4), 9);
            x.put(0, 3, 0);
        }
    }

    private static void warmthOfDoneDays() {
        OrchardBook x = new OrchardBook();
        x.sheet(0, 1, 3);
        x.put(0, 0, 40);
        x.put(0, 1, 41);
        x.name(0);
        x.go(1);
        x.put(0, 0, 20);
        x.put(0, 1, 21);
        due.is("15 a done day", x.warmth(0), 40);
        due.is("15 a day that is not done", x.warmth(1), 21);
        x.name(-1);
        due.is("15 a done day", x.warmth(0), 40);
        due.is("15 a day that is not done", x.warmth(1), 6);
        x.name(0);
        x.sheet(0, 0, 0);
        due.is("15 a done day", x.warmth(0), 40);
        x.go(49);
        due.is("15 a new year", x.warmth(0), 5);
    }

    private static void sum() {
        OrchardBook x = new OrchardBook();
        due.is("16 -1", x.sum(-1), Due.BEYOND);
        due.is("16 50", x.sum(50), Due.BEYOND);
        due.is("16 0", x.sum(0), 5);
        due.is("16 1", x.sum(1), 11);
        due.is("16 49", x.sum(49), 1475);
        x.sheet(2, 1, 2);
        x.put(2, 0, 30);
        x.put(2, 1, 40);
        x.name(2);
        due.is("16 sheet and THE TABLE", x.sum(2), 77);
        x.go(1);
        x.name(-1);
        due.is("16 done and not done", x.sum(2), 43);
    }

    private static void blooms() {
        OrchardBook x = new OrchardBook();
        due.is("17 no sort", x.blooms(0), Due.BEYOND);
        x.sort(0, 1, 0, 1, 0);
        x.sort(5, 1, 0, 1, 0);
        x.sort(6, 1, 0, 1, 0);
        x.sort(1475, 9, 0, 1, 0);
        x.sort(1476, 9, 0, 1, 0);
        x.sort(30, 1, 0, 1, 0);
        due.is("17 -1", x.blooms(-1), Due.BEYOND);
        due.is("17 6", x.blooms(6), Due.BEYOND);
        due.is("17 need 0", x.blooms(0), 0);
        due.is("17 just", x.blooms(1), 0);
        due.is("17 not quite", x.blooms(2), 1);
        due.is("17 the last day", x.blooms(3), 49);
        due.is("17 never", x.blooms(4), Due.NONE);
        due.is("17 30", x.blooms(5), 4);
        x.sheet(0, 1, 50);
        x.put(0, 3, 30);
        x.name(0);
        due.is("17 by THE SHEET", x.blooms(5), 3);
        due.is("17 never by THE SHEET", x.blooms(3), Due.NONE);
        x.go(4);
        x.name(-1);
        due.is("17 by done days", x.blooms(5), 3);
        due.is("17 by done days and THE TABLE", x.blooms(2), 3);
    }

    private static void frost() {
        OrchardBook x = new OrchardBook();
        due.is("18 day -1", x.frost(-1, 0, 0), Due.BEYOND);
        due.is("18 day 50", x.frost(50, 0, 0), Due.BEYOND);
        due.is("18 height -1", x.frost(0, -1, 0), Due.BEYOND);
        due.is("18 height 7", x.frost(0, 7, 0), Due.BEYOND);
        due.is("18 share -1", x.frost(0, 0, -1), Due.BEYOND);
        due.is("18 share 101", x.frost(0, 0, 101), Due.BEYOND);
        due.is("18 least", x.frost(0, 0, 0), 1);
        due.is("18 most", x.frost(49, 6, 100), 1);
        x.go(3);
        due.is("18 done", x.frost(2, 0, 0), Due.TAKEN);
        due.is("18 BEYOND ahead of TAKEN", x.frost(2, 7, 0), Due.BEYOND);
        due.is("18 not done", x.frost(3, 0, 0), 1);
    }

    private static void frostOnTrees() {
        OrchardBook x = new OrchardBook();
        x.sort(0, 9, 0, 1, 0);
        x.takes(0, 0, true);
        x.distance(15);
        x.plant(0, 1, 0, 0);
        x.plant(1, 3, 0, 0);
        x.plant(2, 4, 0, 0);
        x.frost(0, 0, 1);
        x.frost(1, 0, 100);
        x.frost(1, 0, 50);
        x.go(1);
        due.is("18 a hundredth of 6, rounded up", x.fruits(0, 0), 5);
        due.is("18 a hundredth of 10, rounded up", x.fruits(1, 0), 9);
        x.go(1);
        due.is("18 the later one holds", x.fruits(0, 0), 8);
        x.frost(2, 6, 100);
        x.go(1);
        due.is("18 all", x.fruits(0, 0), 8);
        x.frost(3, 6, 0);
        x.go(1);
        due.is("18 a share of 0", x.fruits(0, 0), 14);
        x.frost(49, 6, 100);
        x.go(46);
        x.thin(0, 0);
        x.go(50);
        x.pull(1, 0);
        x.plant(1, 1, 0, 0);
        due.is("18 HEIGHT", x.of(0, 6), 2);
        int flowers = x.of(0, 7) / 9;
        x.frost(0, 1, 100);
        x.frost(1, 2, 100);
        x.go(1);
        due.is("18 above the frost", x.fruits(0, 0), flowers);
        due.is("18 below the frost", x.fruits(1, 0), 0);
        x.go(1);
        due.is("18 as high as the frost", x.fruits(0, 0), flowers);
        x.frost(5, 6, 100);
        x.go(48);
        int next = x.of(0, 7) / 9;
        x.go(6);
        due.is("18 frosts are gone with the year", x.fruits(0, 0), 6 * next);
    }
}
