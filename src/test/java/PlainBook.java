import java.util.ArrayList;
import java.util.HashMap;
import java.util.List;
import java.util.Map;

/** A second telling of the document, as plain as can be and without any care for speed, to compare with. */
public final class PlainBook {
    private record Sort(int need, int length, int ripening, int keeping, int first) { }

    private record Frost(int height, int share) { }

    private static final class Crate {
        final int sort;
        final int since;
        int count;

        Crate(int sort, int since, int count) {
            this.sort = sort;
            this.since = since;
            this.count = count;
        }
    }

    private static final class Part {
        final int sort;
        int fruits;
        int set;
        int thinned;

        Part(int sort) {
            this.sort = sort;
        }
    }

    private static final class Thing {
        int kind;
        int gapYears;
        int planted;
        int wood = 3;
        int load = 0;
        List<Part> parts = new ArrayList<>();

        Thing twin() {
            Thing t = new Thing();
            t.kind = kind;
            t.gapYears = gapYears;
            t.planted = planted;
            t.wood = wood;
            t.load = load;
            for (Part p : parts) {
                Part q = new Part(p.sort);
                q.fruits = p.fruits;
                q.set = p.set;
                q.thinned = p.thinned;
                t.parts.add(q);
            }
            return t;
        }
    }

    private static final class State {
        List<Sort> sorts = new ArrayList<>();
        boolean[][] takes = new boolean[6][6];
        int[] xs = {0, 1, 2, 3, 4, 5, 6, 7, 8, 9, 10, 11};
        int[] ys = new int[12];
        Thing[] things = new Thing[12];
        int distance = 3;
        int year = 0;
        List<Integer> doneWarmths = new ArrayList<>();
        Map<Integer, Frost> frosts = new HashMap<>();
        int hours = 0;
        int named = -1;
        List<Crate> store = new ArrayList<>();
        long[] totals = new long[10];

        State twin() {
            State s = new State();
            s.sorts = new ArrayList<>(sorts);
            for (int a = 0; a < 6; a++) {
                s.takes[a] = takes[a].clone();
            }
            s.xs = xs.clone();
            s.ys = ys.clone();
            for (int p = 0; p < 12; p++) {
                s.things[p] = things[p] == null ? null : things[p].twin();
            }
            s.distance = distance;
            s.year = year;
            s.doneWarmths = new ArrayList<>(doneWarmths);
            s.frosts = new HashMap<>(frosts);
            s.hours = hours;
            s.named = named;
            for (Crate c : store) {
                s.store.add(new Crate(c.sort, c.since, c.count));
            }
            s.totals = totals.clone();
            return s;
        }
    }

    private State now = new State();
    private State kept = null;
    private final short[][] shorts = new short[4][];
    private final float[][] floats = new float[4][];
    private int findings = 0;
    private int[] giving = null;

    private int finding(int code) {
        findings++;
        return code;
    }

    private static boolean out(int v, int low, int high) {
        return v < low || v > high;
    }

    private boolean noSort(int s) {
        return out(s, 0, now.sorts.size() - 1);
    }

    private static boolean isTree(Thing t) {
        return t != null && t.kind != 5;
    }

    public int sort(int need, int length, int ripening, int keeping, int first) {
        if (out(need, 0, 2000) || out(length, 1, 9) || out(ripening, 0, 2000) || out(keeping, 1, 60)
            || out(first, 0, 9)) {
            return finding(-1);
        }
        if (now.sorts.size() == 6) {
            return finding(-5);
        }
        now.sorts.add(new Sort(need, length, ripening, keeping, first));
        giving = null;
        return now.sorts.size() - 1;
    }

    public int takes(int sort, int other, boolean on) {
        if (noSort(sort) || noSort(other)) {
            return finding(-1);
        }
        giving = null;
        if (now.takes[sort][other] == on) {
            return 0;
        }
        now.takes[sort][other] = on;
        return 1;
    }

    public int at(int place, int x, int y) {
        if (out(place, 0, 11) || out(x, 0, 15) || out(y, 0, 15)) {
            return finding(-1);
        }
        if (now.things[place] != null) {
            return finding(-7);
        }
        now.xs[place] = x;
        now.ys[place] = y;
        giving = null;
        return 1;
    }

    public int distance(int v) {
        if (out(v, 1, 15)) {
            return finding(-1);
        }
        int was = now.distance;
        now.distance = v;
        giving = null;
        return was;
    }

    public int plant(int place, int kind, int sort, int other) {
        if (out(place, 0, 11) || out(kind, 1, 4) || noSort(sort) || (kind == 2 && noSort(other))) {
            return finding(-1);
        }
        if (now.things[place] != null) {
            return finding(-7);
        }
        Thing t = new Thing();
        t.kind = kind;
        t.planted = now.year;
        t.parts.add(new Part(sort));
        if (kind == 2) {
            t.parts.add(new Part(other));
        }
        now.things[place] = t;
        giving = null;
        return 1;
    }

    public int pull(int place, int n) {
        if (out(place, 0, 11) || out(n, 0, 9)) {
            return finding(-1);
        }
        Thing t = now.things[place];
        int kind = t == null ? 0 : t.kind;
        if (t != null) {
            for (Part p : t.parts) {
                now.totals[5] += p.fruits;
            }
        }
        now.things[place] = null;
        if (n > 0) {
            Thing gap = new Thing();
            gap.kind = 5;
            gap.gapYears = n;
            now.things[place] = gap;
        }
        giving = null;
        return kind;
    }

    public int as(int place, int kind) {
        if (out(place, 0, 11) || out(kind, 1, 5)) {
            return finding(-1);
        }
        Thing t = now.things[place];
        if (t == null) {
            return finding(-6);
        }
        if (t.kind == kind || (kind == 1 && t.kind != 5)) {
            return place;
        }
        return finding(-4);
    }

    private int height(Thing t) {
        int years = now.year - t.planted;
        return t.kind == 3 ? Math.min(years, 1) : Math.min(years, 6);
    }

    private int buds(Thing t) {
        if (now.year - t.planted < now.sorts.get(t.parts.get(0).sort).first()) {
            return 0;
        }
        int b = 20 * t.wood - t.load / 2;
        b = b < 0 ? 0 : b;
        return t.kind == 3 ? b * 3 / 2 : b;
    }

    private int budsOfPart(Thing t, int part) {
        int b = buds(t);
        if (t.parts.size() == 1) {
            return b;
        }
        return part == 0 ? b / 2 : (b + 1) / 2;
    }

    public int of(int place, int what) {
        if (out(place, 0, 11) || out(what, 0, 7)) {
            return finding(-1);
        }
        Thing t = now.things[place];
        if (t == null) {
            return what == 0 ? 0 : finding(-6);
        }
        if (what == 0) {
            return t.kind;
        }
        if (t.kind == 5) {
            return what == 1 ? t.gapYears : finding(-4);
        }
        return switch (what) {
            case 1 -> t.parts.get(0).sort;
            case 2 -> t.kind == 2 ? t.parts.get(1).sort : -100;
            case 3 -> t.planted;
            case 4 -> t.wood;
            case 5 -> t.load;
            case 6 -> height(t);
            default -> buds(t);
        };
    }

    private int treeFinding(Thing t) {
        return t == null ? -6 : t.kind == 5 ? -4 : 0;
    }

    public int cut(int place, int c) {
        if (out(place, 0, 11) || out(c, 0, 9)) {
            return finding(-1);
        }
        Thing t = now.things[place];
        if (treeFinding(t) != 0) {
            return finding(treeFinding(t));
        }
        t.wood = c > t.wood ? 0 : t.wood - c;
        return t.wood;
    }

    private int sheetSize(int s) {
        return shorts[s] != null ? shorts[s].length : floats[s] != null ? floats[s].length : -1;
    }

    public int sheet(int s, int kind, int n) {
        if (out(s, 0, 3) || out(kind, 0, 2)) {
            return finding(-1);
        }
        if (n < 0) {
            return finding(-3);
        }
        if (n > 50) {
            return finding(-1);
        }
        shorts[s] = kind == 1 ? new short[n] : null;
        floats[s] = kind == 2 ? new float[n] : null;
        return kind == 0 ? 0 : n;
    }

    public int put(int s, int i, int v) {
        if (out(s, 0, 3)) {
            return finding(-1);
        }
        if (sheetSize(s) < 0) {
            return finding(-2);
        }
        if (out(i, 0, sheetSize(s) - 1)) {
            return finding(-1);
        }
        if (shorts[s] != null) {
            shorts[s][i] = (short) v;
        } else {
            floats[s][i] = Float.intBitsToFloat(v);
        }
        return 0;
    }

    public int copy(int s, int from, int t, int to, int n) {
        if (out(s, 0, 3) || out(t, 0, 3)) {
            return finding(-1);
        }
        if (sheetSize(s) < 0 || sheetSize(t) < 0) {
            return finding(-2);
        }
        if ((shorts[s] == null) != (shorts[t] == null)) {
            return finding(-4);
        }
        if (from < 0 || to < 0 || n < 0 || (long) from + n > sheetSize(s) || (long) to + n > sheetSize(t)) {
            return finding(-1);
        }
        Object source = shorts[s] != null ? shorts[s].clone() : floats[s].clone();
        System.arraycopy(source, from, shorts[t] != null ? shorts[t] : floats[t], to, n);
        return n;
    }

    public int name(int s) {
        if (out(s, -1, 3)) {
            return finding(-1);
        }
        now.named = s;
        return 1;
    }

    private static int bounded(double v) {
        return (int) Math.max(0, Math.min(60, v));
    }

    private int warmthOf(int day) {
        if (day < now.doneWarmths.size()) {
            return now.doneWarmths.get(day);
        }
        int s = now.named;
        if (s < 0 || sheetSize(s) <= day) {
            return 5 + day;
        }
        if (shorts[s] != null) {
            return bounded(shorts[s][day]);
        }
        float[] row = floats[s];
        if (!Float.isNaN(row[day])) {
            return bounded(row[day]);
        }
        List<Integer> neighbours = new ArrayList<>();
        for (int i = day - 1; i <= day + 1; i += 2) {
            if (i >= 0 && i < row.length && !Float.isNaN(row[i])) {
                neighbours.add(bounded(row[i]));
            }
        }
        int sum = 0;
        for (int n : neighbours) {
            sum += n;
        }
        return neighbours.isEmpty() ? 0 : sum / neighbours.size();
    }

    public int warmth(int day) {
        return out(day, 0, 49) ? finding(-1) : warmthOf(day);
    }

    private int sumOf(int day) {
        int sum = 0;
        for (int d = 0; d <= day; d++) {
            sum += warmthOf(d);
        }
        return sum;
    }

    public int sum(int day) {
        return out(day, 0, 49) ? finding(-1) : sumOf(day);
    }

    private int firstBloom(int sort, boolean table) {
        int sum = 0;
        for (int d = 0; d < 50; d++) {
            sum += table ? 5 + d : warmthOf(d);
            if (sum >= now.sorts.get(sort).need()) {
                return d;
            }
        }
        return -1;
    }

    private boolean bloomsOn(int sort, int day, boolean table) {
        int first = firstBloom(sort, table);
        return first >= 0 && day >= first && day < first + now.sorts.get(sort).length();
    }

    public int blooms(int sort) {
        if (noSort(sort)) {
            return finding(-1);
        }
        int first = firstBloom(sort, false);
        return first < 0 ? finding(-6) : first;
    }

    public int frost(int day, int height, int share) {
        if (out(day, 0, 49) || out(height, 0, 6) || out(share, 0, 100)) {
            return finding(-1);
        }
        if (day < now.doneWarmths.size()) {
            return finding(-7);
        }
        now.frosts.put(day, new Frost(height, share));
        return 1;
    }

    private boolean near(int a, int b) {
        return Math.abs(now.xs[a] - now.xs[b]) <= now.distance && Math.abs(now.ys[a] - now.ys[b]) <= now.distance;
    }

    private boolean open(int place, int part, int day, boolean table) {
        Thing t = now.things[place];
        return bloomsOn(t.parts.get(part).sort, day, table) && (table || buds(t) > 0);
    }

    private int partnersOf(int place, int part, int day, boolean table) {
        if (!open(place, part, day, table)) {
            return 0;
        }
        int sort = now.things[place].parts.get(part).sort;
        int count = now.takes[sort][sort] ? 1 : 0;
        for (int q = 0; q < 12; q++) {
            if (!isTree(now.things[q]) || (q != place && !near(place, q))) {
                continue;
            }
            for (int r = 0; r < now.things[q].parts.size(); r++) {
                boolean self = q == place && r == part;
                if (!self && now.takes[sort][now.things[q].parts.get(r).sort] && open(q, r, day, table)) {
                    count++;
                }
            }
        }
        return count;
    }

    public int partners(int place, int part, int day) {
        if (out(place, 0, 11) || out(part, 0, 1) || out(day, 0, 49)) {
            return finding(-1);
        }
        Thing t = now.things[place];
        if (treeFinding(t) != 0) {
            return finding(treeFinding(t));
        }
        return part >= t.parts.size() ? finding(-4) : partnersOf(place, part, day, false);
    }

    private boolean ripe(int sort, int day) {
        int first = firstBloom(sort, false);
        int last = first + now.sorts.get(sort).length() - 1;
        if (first < 0 || last > 49 || day <= last) {
            return false;
        }
        int sum = 0;
        for (int d = last + 1; d <= day; d++) {
            sum += warmthOf(d);
        }
        return sum >= now.sorts.get(sort).ripening();
    }

    private int stored() {
        int count = 0;
        for (Crate c : now.store) {
            count += c.count;
        }
        return count;
    }

    private void setOn(int day) {
        for (int p = 0; p < 12; p++) {
            Thing t = now.things[p];
            if (!isTree(t) || t.kind == 4) {
                continue;
            }
            for (int r = 0; r < t.parts.size(); r++) {
                Part part = t.parts.get(r);
                if (!open(p, r, day, false)) {
                    continue;
                }
                int flowers = budsOfPart(t, r) / now.sorts.get(part.sort).length();
                Frost f = now.frosts.get(day);
                if (f != null && height(t) <= f.height()) {
                    flowers -= (int) Math.ceil(flowers * f.share() / 100.0);
                }
                int set = flowers * Math.min(3, partnersOf(p, r, day, false)) / 3;
                part.fruits += set;
                part.set += set;
                now.totals[0] += set;
            }
        }
    }

    private void pickOn(int day, List<Part> ripe) {
        int hours = now.hours;
        while (hours > 0 && stored() < 1000) {
            Part most = null;
            for (Part p : ripe) {
                if (p.fruits > 0 && (most == null || p.fruits > most.fruits)) {
                    most = p;
                }
            }
            if (most == null) {
                return;
            }
            int n = Math.min(Math.min(hours, most.fruits), 1000 - stored());
            most.fruits -= n;
            hours -= n;
            now.totals[2] += n;
            now.store.add(new Crate(most.sort, now.year * 50 + day, n));
        }
    }

    private void doDay() {
        int day = now.doneWarmths.size();
        int today = now.year * 50 + day;
        for (Crate c : now.store) {
            if (today - c.since == now.sorts.get(c.sort).keeping()) {
                now.totals[7] += c.count;
                c.count = 0;
            }
        }
        setOn(day);
        List<Part> ripe = new ArrayList<>();
        for (Thing t : now.things) {
            if (isTree(t)) {
                for (Part p : t.parts) {
                    if (ripe(p.sort, day)) {
                        ripe.add(p);
                    }
                }
            }
        }
        pickOn(day, ripe);
        for (Part p : ripe) {
            int drop = (int) Math.ceil(p.fruits / 10.0);
            p.fruits -= drop;
            now.totals[3] += drop;
        }
        now.doneWarmths.add(warmthOf(day));
    }

    private void endYear() {
        for (int p = 0; p < 12; p++) {
            Thing t = now.things[p];
            if (isTree(t)) {
                t.load = 0;
                for (Part part : t.parts) {
                    now.totals[4] += part.fruits;
                    t.load += part.set - part.thinned;
                    part.fruits = 0;
                    part.set = 0;
                    part.thinned = 0;
                }
                t.wood = t.wood == 9 ? 9 : t.wood + 1;
            } else if (t != null) {
                t.gapYears--;
                if (t.gapYears == 0) {
                    now.things[p] = null;
                }
            }
        }
        now.frosts.clear();
        now.named = -1;
        now.year++;
        now.doneWarmths.clear();
    }

    public int go(int n) {
        if (out(n, 1, 50)) {
            return finding(-1);
        }
        for (int k = 1; k <= n; k++) {
            doDay();
            if (now.doneWarmths.size() == 50) {
                endYear();
                return k;
            }
        }
        return n;
    }

    public int fruits(int place, int part) {
        if (out(place, 0, 11) || out(part, 0, 1)) {
            return finding(-1);
        }
        Thing t = now.things[place];
        if (treeFinding(t) != 0) {
            return finding(treeFinding(t));
        }
        return part >= t.parts.size() ? finding(-4) : t.parts.get(part).fruits;
    }

    public int thin(int place, int n) {
        if (out(place, 0, 11) || n < 0) {
            return finding(-1);
        }
        Thing t = now.things[place];
        if (treeFinding(t) != 0) {
            return finding(treeFinding(t));
        }
        int count = 0;
        for (Part p : t.parts) {
            if (p.fruits > n) {
                count += p.fruits - n;
                p.thinned += p.fruits - n;
                p.fruits = n;
            }
        }
        now.totals[1] += count;
        return count;
    }

    public int hours(int h) {
        if (out(h, 0, 1000)) {
            return finding(-1);
        }
        int was = now.hours;
        now.hours = h;
        return was;
    }

    public int store(int sort) {
        if (noSort(sort)) {
            return finding(-1);
        }
        int count = 0;
        for (Crate c : now.store) {
            count += c.sort == sort ? c.count : 0;
        }
        return count;
    }

    public int take(int sort, int n) {
        if (noSort(sort) || n < 0) {
            return finding(-1);
        }
        int taken = 0;
        for (Crate c : now.store) {
            if (c.sort == sort) {
                int some = Math.min(n - taken, c.count);
                c.count -= some;
                taken += some;
            }
        }
        now.totals[8] += taken;
        return taken;
    }

    public long all(int what) {
        if (out(what, 0, 9)) {
            return finding(-1);
        }
        if (what == 9) {
            return stored();
        }
        if (what == 6) {
            long count = 0;
            for (Thing t : now.things) {
                if (isTree(t)) {
                    for (Part p : t.parts) {
                        count += p.fruits;
                    }
                }
            }
            return count;
        }
        return now.totals[what];
    }

    public int lone(int place) {
        if (out(place, 0, 11)) {
            return finding(-1);
        }
        Thing t = now.things[place];
        if (treeFinding(t) != 0) {
            return finding(treeFinding(t));
        }
        for (int r = 0; r < t.parts.size(); r++) {
            for (int day = 0; day < 50; day++) {
                if (partnersOf(place, r, day, true) > 0) {
                    return 0;
                }
            }
        }
        return 1;
    }

    public int best() {
        List<Integer> trees = new ArrayList<>();
        for (int p = 0; p < 12; p++) {
            if (now.things[p] != null && now.things[p].kind == 1) {
                trees.add(p);
            }
        }
        int sorts = now.sorts.size();
        if (sorts == 0 || trees.isEmpty()) {
            return finding(-6);
        }
        double givings = Math.pow(sorts, trees.size());
        if (givings > 5000.5) {
            return finding(-8);
        }
        boolean[][] fits = fittingSorts(sorts);
        int most = -1;
        for (int code = 0; code < Math.round(givings); code++) {
            int[] sortOf = new int[12];
            int rest = code;
            for (int k = trees.size() - 1; k >= 0; k--) {
                sortOf[trees.get(k)] = rest % sorts;
                rest /= sorts;
            }
            int pairs = 0;
            for (int a : trees) {
                for (int b : trees) {
                    if (a != b && near(a, b) && fits[sortOf[a]][sortOf[b]]) {
                        pairs++;
                    }
                }
            }
            if (pairs > most) {
                most = pairs;
                giving = sortOf;
            }
        }
        return most;
    }

    private boolean[][] fittingSorts(int sorts) {
        boolean[][] fits = new boolean[sorts][sorts];
        for (int a = 0; a < sorts; a++) {
            for (int b = 0; b < sorts; b++) {
                for (int day = 0; day < 50; day++) {
                    fits[a][b] |= now.takes[a][b] && bloomsOn(a, day, true) && bloomsOn(b, day, true);
                }
            }
        }
        return fits;
    }

    public int given(int place) {
        if (giving == null) {
            return finding(-6);
        }
        if (out(place, 0, 11) || now.things[place] == null || now.things[place].kind != 1) {
            return finding(-1);
        }
        return giving[place];
    }

    public int keep() {
        kept = now.twin();
        return now.year;
    }

    public int back() {
        if (kept == null) {
            return finding(-6);
        }
        now = kept.twin();
        giving = null;
        return now.year;
    }

    public int told(int what) {
        return switch (what) {
            case 0 -> now.year;
            case 1 -> now.doneWarmths.size();
            case 2 -> now.sorts.size();
            case 3 -> findings;
            case 4 -> now.named < 0 ? -100 : now.named;
            default -> finding(-1);
        };
    }
}
