import java.util.ArrayList;
import java.util.Arrays;
import java.util.List;

/**
 * Two books made by the same calls. A call that answers a finding is made on one of them alone:
 * whatever is asked of both afterwards must be the same, but for the count of findings.
 */
final class Twins {
    /** How the two begin: without things on their places, or with things of all kinds. */
    enum Start { BARE, ORCHARD }

    private final Due due;
    private final Start start;

    Twins(Due due, Start start) {
        this.due = due;
        this.start = start;
    }

    /** Year 1, day 3; three sorts, four sheets of shorts, frosts, and a giving if there are trees. */
    static OrchardBook make(Start start) {
        OrchardBook x = new OrchardBook();
        x.sort(0, 5, 10, 9, 0);
        x.sort(11, 4, 0, 60, 0);
        x.sort(30, 9, 200, 3, 1);
        for (int pair = 0; pair < 9; pair += 2) {
            x.takes(pair / 3, pair % 3, true);
        }
        x.distance(4);
        x.at(7, 2, 3);
        x.hours(3);
        if (start == Start.ORCHARD) {
            for (int p = 0; p < 12; p++) {
                x.plant(p, p < 5 ? 1 : 2 + p % 3, p % 3, (p + 1) % 3);
            }
            x.pull(9, 3);
            x.pull(10, 0);
        }
        for (int s = 0; s < 4; s++) {
            x.sheet(s, 1, 50);
            x.put(s, 20 + s, 17);
        }
        x.go(50);
        x.name(2);
        x.frost(4, 6, 40);
        x.keep();
        x.go(3);
        x.best();
        return x;
    }

    /** The call answers this finding, is counted as one, and changes nothing. */
    void refused(String what, int finding, String act, Object... numbers) {
        OrchardBook called = make(start);
        OrchardBook still = make(start);
        String told = what + ": " + act + Arrays.toString(numbers);
        int before = called.told(3);
        due.is(told, Calls.call(called, act, numbers), finding);
        due.is(told + " counts as a finding", called.told(3), before + 1);
        due.holds(told + " left a trace", trace(called).equals(trace(still)));
    }

    /** The call's numbers are as told: whatever else it answers, it is not BEYOND. */
    void inside(String what, String act, Object... numbers) {
        String told = what + ": " + act + Arrays.toString(numbers);
        due.holds(told + " answered BEYOND", Calls.call(make(start), act, numbers) != Due.BEYOND);
    }

    /** All that can be asked, then what comes of the days that follow. Stays within an object's 512 calls. */
    private static List<Long> trace(OrchardBook x) {
        List<Long> seen = new ArrayList<>();
        for (int p = 0; p < 12; p++) {
            for (int what = 0; what < 8; what++) {
                seen.add((long) x.of(p, what));
            }
            seen.add((long) x.fruits(p, 0));
            seen.add((long) x.given(p));
            seen.add((long) x.partners(p, 0, 3));
        }
        for (int what = 0; what < 5; what++) {
            seen.add(what == 3 ? 0L : x.told(what));
        }
        for (int day = 0; day < 8; day++) {
            seen.add((long) x.warmth(day));
        }
        for (int s = 0; s < 4; s++) {
            x.name(s);
            seen.add((long) x.sum(19 + s));
            seen.add((long) x.sum(49));
        }
        x.name(-1);
        seen.add((long) x.hours(9));
        seen.add((long) x.distance(3));
        countFruit(x, seen);
        x.go(4);
        countFruit(x, seen);
        x.go(50);
        countFruit(x, seen);
        seen.add((long) x.back());
        x.go(6);
        countFruit(x, seen);
        return seen;
    }

    private static void countFruit(OrchardBook x, List<Long> seen) {
        for (int what = 0; what < 10; what++) {
            seen.add(x.all(what));
        }
        for (int s = 0; s < 4; s++) {
            seen.add((long) x.store(s));
            seen.add((long) x.blooms(s));
        }
        for (int p = 0; p < 12; p++) {
            seen.add((long) x.fruits(p, 0));
        }
    }
}
