/**
 * The book of an orchard. What each call answers is told by the numbered promises of DOC.md.
 * Every row is made with the object and used again, so that no call makes anything.
 */
public final class OrchardBook {
    private static final int BEYOND = -1;
    private static final int MISSING = -2;
    private static final int SIZE = -3;
    private static final int KIND = -4;
    private static final int FULL = -5;
    private static final int NONE = -6;
    private static final int TAKEN = -7;
    private static final int LONG = -8;
    private static final int ABSENT = -100;

    private static final int SORTS = 6;
    private static final int PLACES = 12;
    private static final int PARTS = 2;
    private static final int DAYS = 50;
    private static final int SHEETS = 4;
    private static final int UNNAMED = -1;
    private static final int MOST_KEEPING = 60;
    private static final int MOST_WARMTH = 60;
    private static final int MOST_WOOD = 9;
    private static final int MOST_HEIGHT = 6;
    private static final int MOST_HOURS = 1000;
    private static final int STORE_ROOM = 1000;
    private static final int MOST_GIVINGS = 5000;

    private static final int NOTHING = 0;
    private static final int TREE = 1;
    private static final int GRAFTED = 2;
    private static final int TRAINED = 3;
    private static final int PARTNER = 4;
    private static final int GAP = 5;

    private static final int SHORTS = 1;
    private static final int FLOATS = 2;
    private static final int USUAL_NAN = 0x7fc00000;

    private static final int ALL_SET = 0;
    private static final int ALL_THINNED = 1;
    private static final int ALL_PICKED = 2;
    private static final int ALL_DROPPED = 3;
    private static final int ALL_LEFT = 4;
    private static final int ALL_PULLED = 5;
    private static final int ALL_ON_TREES = 6;
    private static final int ALL_SPOILED = 7;
    private static final int ALL_TAKEN = 8;
    private static final int ALL_STORED = 9;
    private static final int ALLS = 10;

    private final Book book;
    private final Book kept;
    private boolean isKept;
    private final Sheet[] sheets;
    private final Season season;
    private final Laying laying;
    private int findings;

    public OrchardBook() {
        book = new Book();
        kept = new Book();
        isKept = false;
        sheets = new Sheet[SHEETS];
        for (int s = 0; s < SHEETS; s++) {
            sheets[s] = new Sheet();
        }
        season = new Season();
        laying = new Laying();
        findings = 0;
    }

    // ---- sorts, places

    public int sort(int need, int length, int ripening, int keeping, int first) {
        if (!within(need, 0, 2000) || !within(length, 1, 9) || !within(ripening, 0, 2000)) {
            return finding(BEYOND);
        }
        if (!within(keeping, 1, MOST_KEEPING) || !within(first, 0, 9)) {
            return finding(BEYOND);
        }
        if (book.sortCount >= SORTS) {
            return finding(FULL);
        }
        int number = book.sortCount;
        book.sorts[number].begin(need, length, ripening, keeping, first);
        book.sortCount = number + 1;
        laying.forget();
        return number;
    }

    public int takes(int sort, int other, boolean on) {
        if (!isSort(sort) || !isSort(other)) {
            return finding(BEYOND);
        }
        boolean isNew = book.sorts[sort].accepts(other) != on;
        book.sorts[sort].setAccepts(other, on);
        laying.forget();
        return isNew ? 1 : 0;
    }

    public int at(int place, int x, int y) {
        if (!isPlace(place) || !within(x, 0, 15) || !within(y, 0, 15)) {
            return finding(BEYOND);
        }
        Place p = book.places[place];
        if (p.kind != NOTHING) {
            return finding(TAKEN);
        }
        p.x = x;
        p.y = y;
        laying.forget();
        return 1;
    }

    public int distance(int v) {
        if (!within(v, 1, 15)) {
            return finding(BEYOND);
        }
        int before = book.reach;
        book.reach = v;
        laying.forget();
        return before;
    }

    public int plant(int place, int kind, int sort, int other) {
        if (!isPlace(place) || !within(kind, TREE, PARTNER) || !isSort(sort)) {
            return finding(BEYOND);
        }
        if (kind == GRAFTED && !isSort(other)) {
            return finding(BEYOND);
        }
        if (book.places[place].kind != NOTHING) {
            return finding(TAKEN);
        }
        book.places[place].becomeTree(kind, sort, other, book.year);
        laying.forget();
        return 1;
    }

    public int pull(int place, int n) {
        if (!isPlace(place) || !within(n, 0, 9)) {
            return finding(BEYOND);
        }
        Place p = book.places[place];
        int before = p.kind;
        book.totals[ALL_PULLED] += p.fruitCount();
        p.becomeGap(n);
        laying.forget();
        return before;
    }

    public int as(int place, int kind) {
        if (!isPlace(place) || !within(kind, TREE, GAP)) {
            return finding(BEYOND);
        }
        Place p = book.places[place];
        if (p.kind == NOTHING) {
            return finding(NONE);
        }
        boolean fits = p.kind == kind || (kind == TREE && p.isTree());
        return fits ? place : finding(KIND);
    }

    public int of(int place, int what) {
        if (!isPlace(place) || !within(what, 0, 7)) {
            return finding(BEYOND);
        }
        Place p = book.places[place];
        if (what == 0) {
            return p.kind;
        }
        if (p.kind == NOTHING) {
            return finding(NONE);
        }
        if (p.kind == GAP) {
            return what == 1 ? p.gapYears : finding(KIND);
        }
        return book.tellTree(p, what);
    }

    public int cut(int place, int c) {
        if (!isPlace(place) || !within(c, 0, 9)) {
            return finding(BEYOND);
        }
        Place p = book.places[place];
        if (!p.isTree()) {
            return finding(p.whyNoTree());
        }
        p.wood = Math.max(0, p.wood - c);
        return p.wood;
    }

    // ---- sheets, warmth

    public int sheet(int s, int kind, int n) {
        if (!isSheet(s) || !within(kind, 0, FLOATS)) {
            return finding(BEYOND);
        }
        if (n < 0) {
            return finding(SIZE);
        }
        if (n > DAYS) {
            return finding(BEYOND);
        }
        sheets[s].begin(kind, n);
        return sheets[s].size;
    }

    public int put(int s, int i, int v) {
        if (!isSheet(s)) {
            return finding(BEYOND);
        }
        if (sheets[s].isMissing()) {
            return finding(MISSING);
        }
        if (!sheets[s].has(i)) {
            return finding(BEYOND);
        }
        sheets[s].write(i, v);
        return 0;
    }

    public int copy(int s, int from, int t, int to, int n) {
        if (!isSheet(s) || !isSheet(t)) {
            return finding(BEYOND);
        }
        Sheet source = sheets[s];
        Sheet target = sheets[t];
        if (source.isMissing() || target.isMissing()) {
            return finding(MISSING);
        }
        if (source.kind != target.kind) {
            return finding(KIND);
        }
        if (!source.hasRun(from, n) || !target.hasRun(to, n)) {
            return finding(BEYOND);
        }
        System.arraycopy(source.numbers, from, target.numbers, to, n);
        return n;
    }

    public int name(int s) {
        if (s != UNNAMED && !isSheet(s)) {
            return finding(BEYOND);
        }
        book.named = s;
        return 1;
    }

    public int warmth(int day) {
        if (!isDay(day)) {
            return finding(BEYOND);
        }
        return season.warmthNow(book, namedSheet(), day);
    }

    public int sum(int day) {
        if (!isDay(day)) {
            return finding(BEYOND);
        }
        season.readYear(book, namedSheet());
        return season.sums[day + 1];
    }

    public int blooms(int sort) {
        if (!isSort(sort)) {
            return finding(BEYOND);
        }
        season.readYear(book, namedSheet());
        return season.hasBloom(sort) ? season.firstDay[sort] : finding(NONE);
    }

    public int frost(int day, int height, int share) {
        if (!isDay(day) || !within(height, 0, MOST_HEIGHT) || !within(share, 0, 100)) {
            return finding(BEYOND);
        }
        if (day < book.done) {
            return finding(TAKEN);
        }
        book.frostHeight[day] = height;
        book.frostShare[day] = share;
        return 1;
    }

    // ---- fruit

    public int partners(int place, int part, int day) {
        if (!isPlace(place) || !isPart(part) || !isDay(day)) {
            return finding(BEYOND);
        }
        Place p = book.places[place];
        if (!p.isTree()) {
            return finding(p.whyNoTree());
        }
        if (part >= p.partCount()) {
            return finding(KIND);
        }
        season.readYear(book, namedSheet());
        return book.countPartners(season, place, part, day);
    }

    public int go(int n) {
        if (!within(n, 1, DAYS)) {
            return finding(BEYOND);
        }
        // Nothing that warmth hangs on changes between the days of one call: one reading serves all.
        season.readYear(book, namedSheet());
        int days = Math.min(n, DAYS - book.done);
        for (int k = 0; k < days; k++) {
            book.doDay(season);
        }
        if (book.done >= DAYS) {
            book.endYear();
        }
        return days;
    }

    public int fruits(int place, int part) {
        if (!isPlace(place) || !isPart(part)) {
            return finding(BEYOND);
        }
        Place p = book.places[place];
        if (!p.isTree()) {
            return finding(p.whyNoTree());
        }
        return part < p.partCount() ? p.fruitsOn[part] : finding(KIND);
    }

    public int thin(int place, int n) {
        if (!isPlace(place) || n < 0) {
            return finding(BEYOND);
        }
        Place p = book.places[place];
        if (!p.isTree()) {
            return finding(p.whyNoTree());
        }
        int thinned = p.thinTo(n);
        book.totals[ALL_THINNED] += thinned;
        return thinned;
    }

    public int hours(int h) {
        if (!within(h, 0, MOST_HOURS)) {
            return finding(BEYOND);
        }
        int before = book.pickHours;
        book.pickHours = h;
        return before;
    }

    public int store(int sort) {
        if (!isSort(sort)) {
            return finding(BEYOND);
        }
        return book.sorts[sort].stored;
    }

    public int take(int sort, int n) {
        if (!isSort(sort) || n < 0) {
            return finding(BEYOND);
        }
        int taken = book.sorts[sort].takeOldest(n, book.slot);
        book.totals[ALL_TAKEN] += taken;
        return taken;
    }

    public long all(int what) {
        if (!within(what, 0, ALLS - 1)) {
            return finding(BEYOND);
        }
        if (what == ALL_ON_TREES) {
            return book.fruitsOnTrees();
        }
        return what == ALL_STORED ? book.fruitsInStore() : book.totals[what];
    }

    // ---- laying

    public int lone(int place) {
        if (!isPlace(place)) {
            return finding(BEYOND);
        }
        Place p = book.places[place];
        if (!p.isTree()) {
            return finding(p.whyNoTree());
        }
        season.readTable(book);
        return book.couldHavePartner(season, place) ? 0 : 1;
    }

    public int best() {
        // All that a giving hangs on makes the laying forget when it changes: what was told holds still.
        if (laying.isTold) {
            return laying.most;
        }
        laying.gather(book);
        if (book.sortCount == 0 || laying.treeCount == 0) {
            return finding(NONE);
        }
        if (laying.countGivings() > MOST_GIVINGS) {
            return finding(LONG);
        }
        season.readTable(book);
        laying.weighSorts(book, season);
        laying.choose();
        return laying.most;
    }

    public int given(int place) {
        if (!laying.isTold) {
            return finding(NONE);
        }
        if (!isPlace(place) || book.places[place].kind != TREE) {
            return finding(BEYOND);
        }
        return laying.told[place];
    }

    // ---- the whole

    public int keep() {
        kept.become(book);
        isKept = true;
        return book.year;
    }

    public int back() {
        if (!isKept) {
            return finding(NONE);
        }
        book.become(kept);
        laying.forget();
        return book.year;
    }

    public int told(int what) {
        switch (what) {
            case 0:
                return book.year;
            case 1:
                return book.done;
            case 2:
                return book.sortCount;
            case 3:
                return findings;
            case 4:
                return book.named == UNNAMED ? ABSENT : book.named;
            default:
                return finding(BEYOND);
        }
    }

    private int finding(int code) {
        findings++;
        return code;
    }

    private static boolean within(int v, int low, int high) {
        return v >= low && v <= high;
    }

    private static boolean isPlace(int place) {
        return within(place, 0, PLACES - 1);
    }

    private static boolean isPart(int part) {
        return within(part, 0, PARTS - 1);
    }

    private static boolean isDay(int day) {
        return within(day, 0, DAYS - 1);
    }

    private static boolean isSheet(int s) {
        return within(s, 0, SHEETS - 1);
    }

    private boolean isSort(int sort) {
        return within(sort, 0, book.sortCount - 1);
    }

    private Sheet namedSheet() {
        return isSheet(book.named) ? sheets[book.named] : null;
    }

    /** A quotient rounded up, of numbers that are not below 0. */
    private static int upQuotient(int v, int by) {
        return by <= 0 ? 0 : (v + by - 1) / by;
    }

    /** A sort, and what THE STORE has of it. */
    private static final class Sort {
        int need;
        int length;
        int ripening;
        int keeping;
        int first;
        int acceptedBits;
        int stored;
        /** Fruits by the day on which they came, in a ring that is as long as the longest KEEPING. */
        final int[] stock = new int[MOST_KEEPING];

        void begin(int newNeed, int newLength, int newRipening, int newKeeping, int newFirst) {
            need = newNeed;
            length = newLength;
            ripening = newRipening;
            keeping = newKeeping;
            first = newFirst;
            acceptedBits = 0;
            stored = 0;
            for (int k = 0; k < MOST_KEEPING; k++) {
                stock[k] = 0;
            }
        }

        void become(Sort other) {
            need = other.need;
            length = other.length;
            ripening = other.ripening;
            keeping = other.keeping;
            first = other.first;
            acceptedBits = other.acceptedBits;
            stored = other.stored;
            System.arraycopy(other.stock, 0, stock, 0, MOST_KEEPING);
        }

        boolean accepts(int other) {
            return ((acceptedBits >> other) & 1) == 1;
        }

        void setAccepts(int other, boolean on) {
            int bit = 1 << other;
            acceptedBits = on ? acceptedBits | bit : acceptedBits & ~bit;
        }

        void bring(int n, int slot) {
            stock[slot] += n;
            stored += n;
        }

        /** Takes out what has come KEEPING days ahead of the day of this slot. */
        int spoil(int slot) {
            int old = Math.floorMod(slot - keeping, MOST_KEEPING);
            int spoiled = stock[old];
            stock[old] = 0;
            stored -= spoiled;
            return spoiled;
        }

        /** The slot is that of the next day: the oldest fruits came KEEPING days ahead of it. */
        int takeOldest(int n, int slot) {
            int left = Math.min(n, stored);
            int taken = left;
            for (int age = keeping; age >= 1 && left > 0; age--) {
                int k = Math.floorMod(slot - age, MOST_KEEPING);
                int some = Math.min(left, stock[k]);
                stock[k] -= some;
                left -= some;
            }
            stored -= taken;
            return taken;
        }
    }

    /** A place and the thing that it holds. */
    private static final class Place {
        int x;
        int y;
        int kind;
        int mainSort;
        int otherSort;
        int planted;
        int wood;
        int load;
        int gapYears;
        /** What the tree set this year, less what was thinned: its LOAD to be. */
        int netSet;
        final int[] fruitsOn = new int[PARTS];

        void becomeTree(int newKind, int newSort, int newOther, int year) {
            kind = newKind;
            mainSort = newSort;
            otherSort = newKind == GRAFTED ? newOther : ABSENT;
            planted = year;
            wood = 3;
            load = 0;
            gapYears = 0;
            netSet = 0;
            clearFruits();
        }

        void becomeGap(int years) {
            kind = years == 0 ? NOTHING : GAP;
            gapYears = years;
            clearFruits();
        }

        void become(Place other) {
            x = other.x;
            y = other.y;
            kind = other.kind;
            mainSort = other.mainSort;
            otherSort = other.otherSort;
            planted = other.planted;
            wood = other.wood;
            load = other.load;
            gapYears = other.gapYears;
            netSet = other.netSet;
            System.arraycopy(other.fruitsOn, 0, fruitsOn, 0, PARTS);
        }

        boolean isTree() {
            return kind >= TREE && kind <= PARTNER;
        }

        int whyNoTree() {
            return kind == NOTHING ? NONE : KIND;
        }

        int partCount() {
            if (!isTree()) {
                return 0;
            }
            return kind == GRAFTED ? 2 : 1;
        }

        int sortOf(int part) {
            return part == 0 ? mainSort : otherSort;
        }

        int heightIn(int year) {
            return Math.min(year - planted, kind == TRAINED ? 1 : MOST_HEIGHT);
        }

        /** What of a tree's buds is a part's. */
        int shareOfBuds(int part, int buds) {
            if (kind != GRAFTED) {
                return buds;
            }
            return part == 0 ? buds / 2 : buds - buds / 2;
        }

        int fruitCount() {
            return fruitsOn[0] + fruitsOn[1];
        }

        void clearFruits() {
            fruitsOn[0] = 0;
            fruitsOn[1] = 0;
        }

        int thinTo(int n) {
            int thinned = 0;
            for (int part = 0; part < PARTS; part++) {
                int over = Math.max(0, fruitsOn[part] - n);
                fruitsOn[part] -= over;
                thinned += over;
            }
            netSet -= thinned;
            return thinned;
        }

        void endYear() {
            if (isTree()) {
                load = netSet;
                netSet = 0;
                wood = Math.min(MOST_WOOD, wood + 1);
                clearFruits();
            } else if (kind == GAP) {
                becomeGap(gapYears - 1);
            }
        }
    }

    /** A sheet of numbers. Floats are held by their bits, so that no arithmetic meets a NaN. */
    private static final class Sheet {
        int kind;
        int size;
        final int[] numbers = new int[DAYS];

        void begin(int newKind, int newSize) {
            kind = newKind;
            size = newKind == 0 ? 0 : newSize;
            for (int i = 0; i < DAYS; i++) {
                numbers[i] = 0;
            }
        }

        boolean isMissing() {
            return kind == 0;
        }

        boolean has(int i) {
            return i >= 0 && i < size;
        }

        boolean hasRun(int from, int n) {
            // Asked without from + n, which could wrap around.
            return from >= 0 && n >= 0 && n <= size && from <= size - n;
        }

        void write(int i, int v) {
            if (kind == SHORTS) {
                numbers[i] = (short) v;
            } else {
                numbers[i] = isNan(v) ? USUAL_NAN : v;
            }
        }

        static boolean isNan(int bits) {
            return (bits & 0x7fffffff) > 0x7f800000;
        }

        boolean isNumber(int i) {
            return has(i) && !(kind == FLOATS && isNan(numbers[i]));
        }

        int warmthAt(int i) {
            if (isNumber(i)) {
                return boundedAt(i);
            }
            boolean below = isNumber(i - 1);
            boolean above = isNumber(i + 1);
            if (below && above) {
                return (boundedAt(i - 1) + boundedAt(i + 1)) / 2;
            }
            if (below) {
                return boundedAt(i - 1);
            }
            return above ? boundedAt(i + 1) : 0;
        }

        int boundedAt(int i) {
            int whole = kind == FLOATS ? wholeOfFloat(numbers[i]) : numbers[i];
            return Math.max(0, Math.min(MOST_WARMTH, whole));
        }

        /** The float of these bits, cut; 0 for all below 0 and 64 for all from there on, which bounding hides. */
        static int wholeOfFloat(int bits) {
            int power = ((bits >>> 23) & 255) - 127;
            if (bits < 0 || power < 0) {
                return 0;
            }
            if (power >= 6) {
                return 64;
            }
            return ((bits & 0x7fffff) | 0x800000) >> (23 - power);
        }
    }

    /** The WARMTH of a year's days, and the days of bloom that come of it. */
    private static final class Season {
        final int[] heat = new int[DAYS];
        /** The sum of all days ahead of a day; so THE SUM of a day stands one further. */
        final int[] sums = new int[DAYS + 1];
        /** DAYS for a sort that does not bloom. */
        final int[] firstDay = new int[SORTS];
        /** May be behind the year's last day. */
        final int[] lastDay = new int[SORTS];

        static int tableWarmth(int day) {
            return 5 + day;
        }

        int warmthNow(Book book, Sheet sheet, int day) {
            if (day < book.done) {
                return book.doneWarmth[day];
            }
            return sheet != null && sheet.has(day) ? sheet.warmthAt(day) : tableWarmth(day);
        }

        void readYear(Book book, Sheet sheet) {
            for (int day = 0; day < DAYS; day++) {
                heat[day] = warmthNow(book, sheet, day);
            }
            findBlooms(book);
        }

        void readTable(Book book) {
            for (int day = 0; day < DAYS; day++) {
                heat[day] = tableWarmth(day);
            }
            findBlooms(book);
        }

        void findBlooms(Book book) {
            sums[0] = 0;
            for (int day = 0; day < DAYS; day++) {
                sums[day + 1] = sums[day] + heat[day];
            }
            for (int sort = 0; sort < book.sortCount; sort++) {
                int day = 0;
                while (day < DAYS && sums[day + 1] < book.sorts[sort].need) {
                    day++;
                }
                firstDay[sort] = day;
                lastDay[sort] = day + book.sorts[sort].length - 1;
            }
        }

        boolean hasBloom(int sort) {
            return firstDay[sort] < DAYS;
        }

        boolean isInBloom(int sort, int day) {
            return firstDay[sort] <= day && day <= lastDay[sort];
        }

        boolean bloomTogether(int a, int b) {
            return hasBloom(a) && hasBloom(b) && firstDay[a] <= lastDay[b] && firstDay[b] <= lastDay[a];
        }

        boolean isRipe(int sort, int ripening, int day) {
            int last = lastDay[sort];
            return day > last && sums[day + 1] - sums[last + 1] >= ripening;
        }
    }

    /** All that keep() keeps. */
    private static final class Book {
        final Sort[] sorts = new Sort[SORTS];
        int sortCount = 0;
        final Place[] places = new Place[PLACES];
        int reach = 3;
        int year = 0;
        int done = 0;
        final int[] doneWarmth = new int[DAYS];
        final int[] frostHeight = new int[DAYS];
        /** 0 for no frost: that takes nothing. */
        final int[] frostShare = new int[DAYS];
        int pickHours = 0;
        int named = UNNAMED;
        /** Where the next day's fruits come in each sort's stock. */
        int slot = 0;
        final long[] totals = new long[ALLS];

        Book() {
            for (int s = 0; s < SORTS; s++) {
                sorts[s] = new Sort();
            }
            for (int p = 0; p < PLACES; p++) {
                places[p] = new Place();
                places[p].x = p;
            }
        }

        void become(Book other) {
            for (int s = 0; s < SORTS; s++) {
                sorts[s].become(other.sorts[s]);
            }
            sortCount = other.sortCount;
            for (int p = 0; p < PLACES; p++) {
                places[p].become(other.places[p]);
            }
            reach = other.reach;
            year = other.year;
            done = other.done;
            System.arraycopy(other.doneWarmth, 0, doneWarmth, 0, DAYS);
            System.arraycopy(other.frostHeight, 0, frostHeight, 0, DAYS);
            System.arraycopy(other.frostShare, 0, frostShare, 0, DAYS);
            pickHours = other.pickHours;
            named = other.named;
            slot = other.slot;
            System.arraycopy(other.totals, 0, totals, 0, ALLS);
        }

        int tellTree(Place p, int what) {
            switch (what) {
                case 1:
                    return p.mainSort;
                case 2:
                    return p.otherSort;
                case 3:
                    return p.planted;
                case 4:
                    return p.wood;
                case 5:
                    return p.load;
                case 6:
                    return p.heightIn(year);
                default:
                    return budsOf(p);
            }
        }

        int budsOf(Place p) {
            if (year - p.planted < sorts[p.mainSort].first) {
                return 0;
            }
            int buds = Math.max(0, 20 * p.wood - p.load / 2);
            return p.kind == TRAINED ? buds + buds / 2 : buds;
        }

        /** A place is near itself. */
        boolean isNear(int a, int b) {
            int dx = Math.abs(places[a].x - places[b].x);
            int dy = Math.abs(places[a].y - places[b].y);
            return dx <= reach && dy <= reach;
        }

        int fruitsOnTrees() {
            int count = 0;
            for (int p = 0; p < PLACES; p++) {
                count += places[p].fruitCount();
            }
            return count;
        }

        int fruitsInStore() {
            int count = 0;
            for (int s = 0; s < sortCount; s++) {
                count += sorts[s].stored;
            }
            return count;
        }

        boolean isOpen(Season season, Place p, int part, int day) {
            return season.isInBloom(p.sortOf(part), day) && budsOf(p) > 0;
        }

        int countPartners(Season season, int place, int part, int day) {
            Place own = places[place];
            if (!isOpen(season, own, part, day)) {
                return 0;
            }
            Sort mine = sorts[own.sortOf(part)];
            int count = 0;
            // The own place is near too: its parts count by the same rule, a sort that takes theirs.
            for (int q = 0; q < PLACES; q++) {
                Place p = places[q];
                for (int r = 0; r < p.partCount() && isNear(place, q); r++) {
                    if (mine.accepts(p.sortOf(r)) && isOpen(season, p, r, day)) {
                        count++;
                    }
                }
            }
            return count;
        }

        boolean couldHavePartner(Season season, int place) {
            Place own = places[place];
            for (int part = 0; part < own.partCount(); part++) {
                for (int q = 0; q < PLACES; q++) {
                    if (isNear(place, q) && fitsAnyPart(season, own.sortOf(part), places[q])) {
                        return true;
                    }
                }
            }
            return false;
        }

        boolean fitsAnyPart(Season season, int sort, Place p) {
            for (int r = 0; r < p.partCount(); r++) {
                int other = p.sortOf(r);
                if (sorts[sort].accepts(other) && season.bloomTogether(sort, other)) {
                    return true;
                }
            }
            return false;
        }

        void doDay(Season season) {
            if (done >= DAYS) {
                return;
            }
            int day = done;
            doneWarmth[day] = season.heat[day];
            spoilStore();
            setFruits(season, day);
            pickFruits(season, day);
            dropFruits(season, day);
            slot = (slot + 1) % MOST_KEEPING;
            done = day + 1;
        }

        void spoilStore() {
            for (int s = 0; s < sortCount; s++) {
                totals[ALL_SPOILED] += sorts[s].spoil(slot);
            }
        }

        void setFruits(Season season, int day) {
            for (int q = 0; q < PLACES; q++) {
                Place p = places[q];
                for (int part = 0; part < p.partCount() && p.kind != PARTNER; part++) {
                    int partners = countPartners(season, q, part, day);
                    int set = flowersLeft(p, part, day) * Math.min(3, partners) / 3;
                    p.fruitsOn[part] += set;
                    p.netSet += set;
                    totals[ALL_SET] += set;
                }
            }
        }

        int flowersLeft(Place p, int part, int day) {
            int length = sorts[p.sortOf(part)].length;
            if (length <= 0) {
                return 0;
            }
            int flowers = p.shareOfBuds(part, budsOf(p)) / length;
            if (p.heightIn(year) > frostHeight[day]) {
                return flowers;
            }
            return flowers - upQuotient(flowers * frostShare[day], 100);
        }

        boolean isRipe(Season season, Place p, int part, int day) {
            int sort = p.sortOf(part);
            return season.isRipe(sort, sorts[sort].ripening, day);
        }

        void pickFruits(Season season, int day) {
            int left = Math.min(pickHours, STORE_ROOM - fruitsInStore());
            // A part that is picked is empty then, or nothing is left to pick with: no part comes twice.
            for (int round = 0; round < PLACES * PARTS && left > 0; round++) {
                int fullest = fullestRipe(season, day);
                if (fullest < 0) {
                    return;
                }
                Place p = places[fullest / PARTS];
                int part = fullest % PARTS;
                int picked = Math.min(left, p.fruitsOn[part]);
                p.fruitsOn[part] -= picked;
                sorts[p.sortOf(part)].bring(picked, slot);
                totals[ALL_PICKED] += picked;
                left -= picked;
            }
        }

        /** The part with the most ripe fruits, as place times PARTS and part; -1 when there are none. */
        int fullestRipe(Season season, int day) {
            int fullest = -1;
            int most = 0;
            for (int q = 0; q < PLACES; q++) {
                Place p = places[q];
                for (int part = 0; part < p.partCount(); part++) {
                    if (p.fruitsOn[part] > most && isRipe(season, p, part, day)) {
                        most = p.fruitsOn[part];
                        fullest = q * PARTS + part;
                    }
                }
            }
            return fullest;
        }

        void dropFruits(Season season, int day) {
            for (int q = 0; q < PLACES; q++) {
                Place p = places[q];
                for (int part = 0; part < p.partCount(); part++) {
                    if (isRipe(season, p, part, day)) {
                        int dropped = upQuotient(p.fruitsOn[part], 10);
                        p.fruitsOn[part] -= dropped;
                        totals[ALL_DROPPED] += dropped;
                    }
                }
            }
        }

        void endYear() {
            totals[ALL_LEFT] += fruitsOnTrees();
            for (int p = 0; p < PLACES; p++) {
                places[p].endYear();
            }
            for (int day = 0; day < DAYS; day++) {
                frostShare[day] = 0;
            }
            named = UNNAMED;
            year++;
            done = 0;
        }
    }

    /** The giving of sorts to trees of kind 1 that has the most PAIRS. */
    private static final class Laying {
        boolean isTold;
        int most;
        int treeCount;
        int sortCount;
        final int[] trees = new int[PLACES];
        /** By tree, a bit for each earlier one that is near. */
        final int[] nearBits = new int[PLACES];
        /** By place, the best giving. */
        final int[] told = new int[PLACES];
        /** By tree, the giving that is tried now. */
        final int[] tried = new int[PLACES];
        /** PAIRS among as many trees, the first ones. */
        final int[] pairsAmong = new int[PLACES + 1];
        /** By two sorts, the PAIRS of two near trees that have them, both ways. */
        final int[] worth = new int[SORTS * SORTS];

        void forget() {
            isTold = false;
        }

        void gather(Book book) {
            sortCount = book.sortCount;
            treeCount = 0;
            for (int p = 0; p < PLACES; p++) {
                if (book.places[p].kind == TREE) {
                    trees[treeCount] = p;
                    nearBits[treeCount] = nearEarlier(book, p);
                    treeCount++;
                }
            }
        }

        int nearEarlier(Book book, int place) {
            int bits = 0;
            for (int e = 0; e < treeCount; e++) {
                if (book.isNear(place, trees[e])) {
                    bits |= 1 << e;
                }
            }
            return bits;
        }

        int countGivings() {
            int count = 1;
            for (int t = 0; t < treeCount && count <= MOST_GIVINGS; t++) {
                count *= sortCount;
            }
            return count;
        }

        void choose() {
            for (int t = 0; t < treeCount; t++) {
                tried[t] = 0;
            }
            most = -1;
            int changed = 0;
            for (int g = 0; g <= MOST_GIVINGS && changed >= 0; g++) {
                countPairs(changed);
                // Only more than before: of several the first one stays.
                if (pairsAmong[treeCount] > most) {
                    most = pairsAmong[treeCount];
                    tellTried();
                }
                changed = tryNext();
            }
            isTold = true;
        }

        void weighSorts(Book book, Season season) {
            for (int a = 0; a < sortCount; a++) {
                for (int b = 0; b < sortCount; b++) {
                    int ways = (book.sorts[a].accepts(b) ? 1 : 0) + (book.sorts[b].accepts(a) ? 1 : 0);
                    worth[a * SORTS + b] = season.bloomTogether(a, b) ? ways : 0;
                }
            }
        }

        /** Counts anew from the first tree on whose sort has changed. */
        void countPairs(int changed) {
            for (int t = changed; t < treeCount; t++) {
                int pairs = pairsAmong[t];
                int row = tried[t] * SORTS;
                for (int e = 0; e < t; e++) {
                    if (((nearBits[t] >> e) & 1) == 1) {
                        pairs += worth[row + tried[e]];
                    }
                }
                pairsAmong[t + 1] = pairs;
            }
        }

        void tellTried() {
            for (int t = 0; t < treeCount; t++) {
                told[trees[t]] = tried[t];
            }
        }

        /** The first tree whose sort has changed; -1 when all givings are through. */
        int tryNext() {
            for (int t = treeCount - 1; t >= 0; t--) {
                if (tried[t] + 1 < sortCount) {
                    tried[t]++;
                    return t;
                }
                tried[t] = 0;
            }
            return -1;
        }
    }
}
