import java.util.function.LongSupplier;

/** Promises 1 to 23: long runs of mixed calls, each answer compared with that of SlowStreet. */
public final class RunsTest {
    private static final int RUNS = 400;
    private static final int CALLS = 512;
    private static final int CALLS_OF_THE_LAST_LOOK = 2 + 8 * 6;

    private static final Due due = new Due();

    private final BellStreet fast = new BellStreet();
    private final SlowStreet slow = new SlowStreet();
    private final int run;
    private final int wildOneOf;
    private final int longPassOneOf;
    private long seed;
    private String call = "";
    private int calls = 0;

    private RunsTest(int run) {
        this.run = run;
        this.seed = 1000003L * run + 17;
        this.wildOneOf = run % 3 == 0 ? 10 : 60;
        this.longPassOneOf = run % 4 == 0 ? 2 : 12;
    }

    public static void main(String[] args) {
        for (int run = 0; run < RUNS && due.wrong() < 20; run++) {
            new RunsTest(run).play();
        }
        due.end();
    }

    /** A number from 0 up to, not including, the bound: the same ones in each run of the test. */
    private int any(int bound) {
        seed = seed * 6364136223846793005L + 1442695040888963407L;
        return (int) ((seed >>> 33) % bound);
    }

    /** A number of the range; now and then one at its edge, beyond it, or far from it. */
    private int near(int from, int to) {
        if (any(wildOneOf) != 0) {
            return from + any(to - from + 1);
        }
        int[] wild = {from - 1, to + 1, from, to, from - 2, Integer.MIN_VALUE, Integer.MAX_VALUE};
        return wild[any(wild.length)];
    }

    private void same(String name, String want, LongSupplier got) {
        calls++;
        due.compare("run " + run + ", call " + calls + ": " + name, want, Due.told(got));
    }

    private void play() {
        // Without melodies on bells from the begin, most presses of a run would only throw.
        for (int i = 0; i < 4; i++) {
            addMelody();
        }
        for (int i = 0; i < 12; i++) {
            lay();
        }
        while (calls < CALLS - CALLS_OF_THE_LAST_LOOK - 4) {
            step(any(44));
        }
        lookAtAll();
    }

    private void step(int kind) {
        if (kind < 3) addMelody();
        else if (kind < 5) lookAtMelodies();
        else if (kind < 9) license();
        else if (kind < 13) setQuiet();
        else if (kind < 17) lay();
        else if (kind < 26) press();
        else if (kind < 28) fault();
        else if (kind < 31) repair();
        else if (kind < 38) pass();
        else lookAtHouse(near(0, 7));
    }

    private void addMelody() {
        int h = near(0, 7);
        int count = near(1, 12);
        int bits = 4 * (count < 1 || count > 12 ? 6 : count) + (any(20) == 0 ? 1 : 0);
        long tones = any(30) == 0 ? -1L - any(5) : (seed ^ seed << 21) & (1L << bits) - 1;
        if (any(4) == 0) {
            tones &= 0x111111111111L;
        }
        long given = tones;
        same("addMelody(" + h + ", " + count + ", " + tones + ")", slow.addMelody(h, count, tones), () -> fast.addMelody(h, count, given));
    }

    private void lookAtMelodies() {
        int m = near(0, 6);
        int other = near(0, 6);
        int by = near(0, 15);
        int place = near(0, 6);
        same("toneAt(" + m + ", " + place + ")", slow.toneAt(m, place), () -> fast.toneAt(m, place));
        same("shifted(" + m + ", " + by + ")", slow.shifted(m, by), () -> fast.shifted(m, by));
        same("turned(" + m + ")", slow.turned(m), () -> fast.turned(m));
        same("areAlike(" + m + ", " + other + ")", slow.areAlike(m, other), () -> fast.areAlike(m, other) ? 1 : 0);
    }

    private void license() {
        int h = near(0, 7);
        int m = near(0, 5);
        int rings = any(3) > 0 ? near(1, 5) : near(1, 1000);
        same("license(" + h + ", " + m + ", " + rings + ")", slow.license(h, m, rings), () -> fast.license(h, m, rings));
    }

    private void setQuiet() {
        int h = near(0, 7);
        int second = Integer.parseInt(slow.time()) % 1000;
        int from = any(2) == 0 ? near(0, 999) : (second + 980 + any(60)) % 1000;
        int to = any(2) == 0 ? near(0, 999) : (second + 980 + any(60)) % 1000;
        same("setQuiet(" + h + ", " + from + ", " + to + ")", slow.setQuiet(h, from, to), () -> fast.setQuiet(h, from, to) ? 1 : 0);
    }

    private void lay() {
        int h = near(0, 7);
        int b = near(0, 2);
        int m = any(8) == 0 ? -1 : near(0, 4);
        int load = near(1, any(2) == 0 ? 9 : 4);
        same("lay(" + h + ", " + b + ", " + m + ", " + load + ")", slow.lay(h, b, m, load), () -> fast.lay(h, b, m, load));
    }

    private void press() {
        int h = near(0, 7);
        int b = near(0, 2);
        same("press(" + h + ", " + b + ")", slow.press(h, b), () -> fast.press(h, b));
    }

    private void fault() {
        int h = near(0, 7);
        same("fault(" + h + ")", slow.fault(h), () -> fast.fault(h));
    }

    private void repair() {
        int h = near(0, 7);
        same("repair(" + h + ")", slow.repair(h), () -> fast.repair(h));
    }

    private void pass() {
        int toEndOfDay = 1000 - Integer.parseInt(slow.time()) % 1000;
        int seconds = any(longPassOneOf) == 0 ? near(1, 2000) : any(8) == 0 ? Math.max(1, toEndOfDay - any(12)) : near(1, 30);
        same("pass(" + seconds + ")", slow.pass(seconds), () -> fast.pass(seconds));
    }

    private void lookAtHouse(int h) {
        int m = near(0, 5);
        int place = near(0, 9);
        switch (any(9)) {
            case 0 -> same("ringing(" + h + ")", slow.ringing(h), () -> fast.ringing(h));
            case 1 -> same("isSound(" + h + ")", slow.isSound(h), () -> fast.isSound(h) ? 1 : 0);
            case 2 -> same("ringsLeft(" + h + ", " + m + ")", slow.ringsLeft(h, m), () -> fast.ringsLeft(h, m));
            case 3 -> same("points(" + h + ")", slow.points(h), () -> fast.points(h));
            case 4 -> same("secondsRung(" + h + ")", slow.secondsRung(h), () -> fast.secondsRung(h));
            case 5 -> same("quietBroken(" + h + ")", slow.quietBroken(h), () -> fast.quietBroken(h));
            case 6 -> same("hushed(" + h + ")", slow.hushed(h), () -> fast.hushed(h));
            case 7 -> same("faultAt(" + place + ")", slow.faultAt(place), () -> fast.faultAt(place));
            default -> same("time()", slow.time(), () -> fast.time());
        }
    }

    private void lookAtAll() {
        same("faults()", slow.faults(), () -> fast.faults());
        same("time()", slow.time(), () -> fast.time());
        for (int house = 0; house < 8; house++) {
            int h = house;
            same("ringing(" + h + ")", slow.ringing(h), () -> fast.ringing(h));
            same("isSound(" + h + ")", slow.isSound(h), () -> fast.isSound(h) ? 1 : 0);
            same("points(" + h + ")", slow.points(h), () -> fast.points(h));
            same("secondsRung(" + h + ")", slow.secondsRung(h), () -> fast.secondsRung(h));
            same("quietBroken(" + h + ")", slow.quietBroken(h), () -> fast.quietBroken(h));
            same("hushed(" + h + ")", slow.hushed(h), () -> fast.hushed(h));
        }
    }
}
