/**
 * A second telling of the document, as plain as it can be: flat arrays, and each second by itself.
 * Runs of calls are compared with it. A call's answer is a text, the name of the exception if it throws.
 */
final class SlowStreet {
    static final String INDEX = "throws.IndexOutOfBoundsException";
    static final String ARGUMENT = "throws.IllegalArgumentException";
    static final String STATE = "throws.IllegalStateException";

    private int time = 0;
    private int melodies = 0;
    private final int[] owner = new int[12];
    private final int[][] tones = new int[12][];
    private final int[][] melodyOf = new int[8][3];
    private final int[][] load = new int[8][3];
    private final int[][] secondsToRing = new int[8][3];
    private final int[][] left = new int[8][12];
    private final int[] quietFrom = new int[8];
    private final int[] quietTo = new int[8];
    private final boolean[] broken = new boolean[8];
    private final int[] crewGoal = {-1, -1};
    private final int[] crewSeconds = new int[2];
    private final int[] points = new int[8];
    private final int[] rung = new int[8];
    private final int[] quietBroken = new int[8];
    private final int[] quietBrokenBefore = new int[8];
    private final int[] hushed = new int[8];
    private final int[] told = new int[100];
    private int faults = 0;

    SlowStreet() {
        for (int h = 0; h < 8; h++) {
            for (int b = 0; b < 3; b++) {
                melodyOf[h][b] = -1;
                load[h][b] = 1;
            }
        }
    }

    private static boolean in(int x, int from, int to) {
        return from <= x && x <= to;
    }

    private boolean noHouse(int h) {
        return !in(h, 0, 7);
    }

    private boolean noMelody(int m) {
        return !in(m, 0, melodies - 1);
    }

    private static String told(long answer) {
        return String.valueOf(answer);
    }

    private static String told(boolean answer) {
        return told(answer ? 1 : 0);
    }

    private boolean quiet(int h) {
        for (int s = quietFrom[h]; s != quietTo[h]; s = (s + 1) % 1000) {
            if (s == time % 1000) {
                return true;
            }
        }
        return false;
    }

    private boolean rings(int h) {
        return secondsToRing[h][0] > 0 || secondsToRing[h][1] > 0 || secondsToRing[h][2] > 0;
    }

    String addMelody(int h, int count, long bits) {
        if (noHouse(h)) return INDEX;
        if (!in(count, 1, 12) || bits < 0 || bits >= Math.pow(16, count)) return ARGUMENT;
        if (melodies == 12) return STATE;
        owner[melodies] = h;
        tones[melodies] = new int[count];
        long rest = bits;
        for (int i = 0; i < count; i++) {
            tones[melodies][i] = (int) (rest % 16);
            rest /= 16;
        }
        return told(melodies++);
    }

    String toneAt(int m, int place) {
        if (noMelody(m) || !in(place, 0, tones[m].length - 1)) return INDEX;
        return told(tones[m][place]);
    }

    private long bits(int[] list) {
        long sum = 0;
        long worth = 1;
        for (int tone : list) {
            sum += worth * tone;
            worth *= 16;
        }
        return sum;
    }

    private int[] plus(int[] list, int by) {
        int[] result = new int[list.length];
        for (int i = 0; i < list.length; i++) {
            result[i] = (list[i] + by) % 16;
        }
        return result;
    }

    String shifted(int m, int by) {
        if (noMelody(m)) return INDEX;
        if (!in(by, 0, 15)) return ARGUMENT;
        return told(bits(plus(tones[m], by)));
    }

    String turned(int m) {
        if (noMelody(m)) return INDEX;
        int n = tones[m].length;
        int[] result = new int[n];
        for (int i = 0; i < n; i++) {
            result[i] = tones[m][n - 1 - i];
        }
        return told(bits(result));
    }

    String areAlike(int one, int other) {
        if (noMelody(one) || noMelody(other)) return INDEX;
        for (int by = 0; by < 16; by++) {
            if (java.util.Arrays.equals(plus(tones[one], by), tones[other])) return told(true);
        }
        return told(false);
    }

    String license(int h, int m, int rings) {
        if (noHouse(h) || noMelody(m)) return INDEX;
        if (!in(rings, 1, 1000)) return ARGUMENT;
        if (owner[m] == h || left[h][m] + rings > 1000) return STATE;
        left[h][m] += rings;
        return told(left[h][m]);
    }

    String setQuiet(int h, int from, int to) {
        if (noHouse(h)) return INDEX;
        if (!in(from, 0, 999) || !in(to, 0, 999)) return ARGUMENT;
        quietFrom[h] = from;
        quietTo[h] = to;
        return told(quiet(h));
    }

    String lay(int h, int b, int m, int newLoad) {
        if (noHouse(h) || !in(b, 0, 2) || m != -1 && noMelody(m)) return INDEX;
        if (!in(newLoad, 1, 9)) return ARGUMENT;
        int had = melodyOf[h][b];
        melodyOf[h][b] = m;
        load[h][b] = newLoad;
        secondsToRing[h][b] = 0;
        return told(had);
    }

    private void breakHouse(int h) {
        broken[h] = true;
        for (int b = 0; b < 3; b++) {
            secondsToRing[h][b] = 0;
        }
    }

    String press(int h, int b) {
        if (noHouse(h) || !in(b, 0, 2)) return INDEX;
        int m = melodyOf[h][b];
        if (m == -1) return STATE;
        if (broken[h] || secondsToRing[h][b] > 0) return told(0);
        if (quiet(h)) {
            hushed[h]++;
            return told(2);
        }
        if (owner[m] != h && left[h][m] == 0) return told(0);
        int sum = load[h][b];
        for (int other = 0; other < 3; other++) {
            if (secondsToRing[h][other] > 0) sum += load[h][other];
        }
        if (sum > 10) {
            breakHouse(h);
            return told(3);
        }
        secondsToRing[h][b] = 2 * tones[m].length;
        if (owner[m] != h) left[h][m]--;
        return told(1);
    }

    String fault(int h) {
        if (noHouse(h)) return INDEX;
        if (broken[h] || faults == 100) return STATE;
        int begun = 0;
        int first = h < 4 ? 0 : 4;
        for (int other = first; other < first + 4; other++) {
            for (int b = 0; b < 3; b++) {
                if (!broken[other] && melodyOf[other][b] != -1 && secondsToRing[other][b] == 0) {
                    secondsToRing[other][b] = 2 * tones[melodyOf[other][b]].length;
                    if (other != h) begun++;
                }
            }
        }
        breakHouse(h);
        told[faults++] = 10 * time + h;
        return told(begun);
    }

    String repair(int h) {
        if (noHouse(h)) return INDEX;
        if (!broken[h] || crewGoal[h / 4] != -1) return STATE;
        crewGoal[h / 4] = h;
        crewSeconds[h / 4] = 50;
        return told(time + 50);
    }

    String pass(int seconds) {
        if (!in(seconds, 1, 2000)) return ARGUMENT;
        if (time > 1000000 - seconds) return STATE;
        for (int i = 0; i < seconds; i++) {
            passSecond();
        }
        return told(time);
    }

    private void passSecond() {
        for (int h = 0; h < 8; h++) {
            if (rings(h)) {
                rung[h]++;
                if (quiet(h)) quietBroken[h]++;
            }
        }
        time++;
        for (int h = 0; h < 8; h++) {
            for (int b = 0; b < 3; b++) {
                if (secondsToRing[h][b] > 0) secondsToRing[h][b]--;
            }
        }
        for (int street = 0; street < 2; street++) {
            if (crewGoal[street] != -1 && --crewSeconds[street] == 0) {
                broken[crewGoal[street]] = false;
                crewGoal[street] = -1;
            }
        }
        if (time % 1000 == 0) givePoints();
    }

    private void givePoints() {
        for (int h = 0; h < 8; h++) {
            if (quietBroken[h] == quietBrokenBefore[h]) points[h]++;
            quietBrokenBefore[h] = quietBroken[h];
        }
        for (int i = 0; i < faults; i++) {
            if (told[i] / 10 >= time - 1000) points[told[i] % 10] -= 3;
        }
    }

    String time() {
        return told(time);
    }

    String ringing(int h) {
        if (noHouse(h)) return INDEX;
        int[] rest = secondsToRing[h];
        return told((rest[0] > 0 ? 1 : 0) + (rest[1] > 0 ? 2 : 0) + (rest[2] > 0 ? 4 : 0));
    }

    String isSound(int h) {
        return noHouse(h) ? INDEX : told(!broken[h]);
    }

    String ringsLeft(int h, int m) {
        if (noHouse(h) || noMelody(m)) return INDEX;
        return told(owner[m] == h ? -1 : left[h][m]);
    }

    String points(int h) {
        return noHouse(h) ? INDEX : told(points[h]);
    }

    String secondsRung(int h) {
        return noHouse(h) ? INDEX : told(rung[h]);
    }

    String quietBroken(int h) {
        return noHouse(h) ? INDEX : told(quietBroken[h]);
    }

    String hushed(int h) {
        return noHouse(h) ? INDEX : told(hushed[h]);
    }

    String faults() {
        return told(faults);
    }

    String faultAt(int place) {
        return in(place, 0, faults - 1) ? told(told[place]) : INDEX;
    }
}
