public final class BellStreet {
    public static final int NONE = -1;
    public static final int NOTHING = 0, RINGS = 1, HUSHED = 2, BROKEN = 3;

    private static final int HOUSES = 8;
    private static final int STREETS = 2;
    private static final int HOUSES_OF_A_STREET = 4;
    private static final int BELLS = 3;
    private static final int MELODIES = 12;
    private static final int MOST_TONES = 12;
    private static final int TONE_BITS = 4;
    private static final int HIGHEST_TONE = 15;
    private static final int SECONDS_OF_A_TONE = 2;
    private static final int MOST_LOAD_OF_A_BELL = 9;
    private static final int MOST_LOAD_OF_A_HOUSE = 10;
    private static final int MOST_RINGS = 1000;
    private static final int MOST_FAULTS = 100;
    private static final int POINTS_LOST_BY_A_FAULT = 3;
    private static final int DAY = 1000;
    private static final int SECONDS_OF_A_REPAIR = 50;
    private static final int MOST_SECONDS_TO_PASS = 2000;
    private static final int LAST_TIME = 1000000;

    private final House[] houses = new House[HOUSES];
    private final Crew[] crews = new Crew[STREETS];
    private final Melody[] melodies = new Melody[MELODIES];
    private final int[] toldFaults = new int[MOST_FAULTS];
    private int melodyCount = 0;
    private int faultCount = 0;
    private int now = 0;

    public BellStreet() {
        for (int number = 0; number < HOUSES; number++) {
            houses[number] = new House(number);
        }
        for (int street = 0; street < STREETS; street++) {
            crews[street] = new Crew();
        }
    }

    // ---- melodies

    public int addMelody(int owner, int count, long tones) throws IndexOutOfBoundsException, IllegalArgumentException, IllegalStateException {
        checkHouse(owner);
        if (count < 1 || count > MOST_TONES) {
            throw new IllegalArgumentException("a melody has 1 to 12 tones");
        }
        if (tones < 0 || tones >> (TONE_BITS * count) != 0) {
            throw new IllegalArgumentException("there are bits that are of no tone");
        }
        if (melodyCount >= MELODIES) {
            throw new IllegalStateException("there are 12 melodies");
        }
        int number = melodyCount;
        melodies[number] = new Melody(number, owner, count, tones);
        melodyCount++;
        return number;
    }

    public int toneAt(int melody, int place) throws IndexOutOfBoundsException {
        Melody asked = melodyAt(melody);
        if (place < 0 || place >= asked.count) {
            throw new IndexOutOfBoundsException("no such tone");
        }
        return asked.tone(place);
    }

    public long shifted(int melody, int by) throws IndexOutOfBoundsException, IllegalArgumentException {
        Melody asked = melodyAt(melody);
        if (by < 0 || by > HIGHEST_TONE) {
            throw new IllegalArgumentException("a shift is 0 to 15");
        }
        return asked.tonesShifted(by);
    }

    public long turned(int melody) throws IndexOutOfBoundsException {
        return melodyAt(melody).tonesTurned();
    }

    public boolean areAlike(int one, int other) throws IndexOutOfBoundsException {
        return melodyAt(one).isShiftOf(melodyAt(other));
    }

    public int license(int house, int melody, int rings) throws IndexOutOfBoundsException, IllegalArgumentException, IllegalStateException {
        House licensed = houseAt(house);
        Melody granted = melodyAt(melody);
        if (rings < 1 || rings > MOST_RINGS) {
            throw new IllegalArgumentException("1 to 1000 rings are given");
        }
        if (granted.owner == house) {
            throw new IllegalStateException("the house is the owner");
        }
        if (licensed.rights[melody] + rings > MOST_RINGS) {
            throw new IllegalStateException("a house has at most 1000 rings left");
        }
        licensed.rights[melody] += rings;
        return licensed.rights[melody];
    }

    // ---- houses

    public boolean setQuiet(int house, int from, int to) throws IndexOutOfBoundsException, IllegalArgumentException {
        House calmed = houseAt(house);
        if (from < 0 || from >= DAY || to < 0 || to >= DAY) {
            throw new IllegalArgumentException("a second of the day is 0 to 999");
        }
        calmed.quietFrom = from;
        calmed.quietTo = to;
        return calmed.isQuietAt(now);
    }

    public int lay(int house, int bell, int melody, int load) throws IndexOutOfBoundsException, IllegalArgumentException {
        Bell laid = bellAt(house, bell);
        Melody next = melody == NONE ? null : melodyAt(melody);
        if (load < 1 || load > MOST_LOAD_OF_A_BELL) {
            throw new IllegalArgumentException("a load is 1 to 9");
        }
        Melody had = laid.melody;
        laid.melody = next;
        laid.load = load;
        laid.isRinging = false;
        return had == null ? NONE : had.number;
    }

    public int press(int house, int bell) throws IndexOutOfBoundsException, IllegalStateException {
        House home = houseAt(house);
        Bell pressed = bellAt(house, bell);
        Melody melody = pressed.melody;
        if (melody == null) {
            throw new IllegalStateException("the bell has no melody");
        }
        if (!home.sound || pressed.isRinging) {
            return NOTHING;
        }
        if (home.isQuietAt(now)) {
            home.hushedPresses++;
            return HUSHED;
        }
        if (!home.mayRing(melody)) {
            return NOTHING;
        }
        if (home.ringingLoad() + pressed.load > MOST_LOAD_OF_A_HOUSE) {
            home.breakDown();
            return BROKEN;
        }
        home.useRight(melody);
        pressed.ringUntil(now + melody.lasts());
        return RINGS;
    }

    public int fault(int house) throws IndexOutOfBoundsException, IllegalStateException {
        House faulty = houseAt(house);
        if (!faulty.sound) {
            throw new IllegalStateException("the house is broken");
        }
        if (faultCount >= MOST_FAULTS) {
            throw new IllegalStateException("there were 100 faults");
        }
        // The bells of the faulty house are left out: they would stop in the same moment.
        int begun = 0;
        for (House other : houses) {
            if (other != faulty && other.street == faulty.street && other.sound) {
                begun += other.startBells(now);
            }
        }
        faulty.breakDown();
        faulty.faultsOfTheDay++;
        toldFaults[faultCount] = 10 * now + house;
        faultCount++;
        return begun;
    }

    public int repair(int house) throws IndexOutOfBoundsException, IllegalStateException {
        House broken = houseAt(house);
        Crew crew = crews[broken.street];
        if (broken.sound) {
            throw new IllegalStateException("the house is sound");
        }
        if (crew.goal != null) {
            throw new IllegalStateException("the crew is under way");
        }
        crew.goal = broken;
        crew.doneAt = now + SECONDS_OF_A_REPAIR;
        return crew.doneAt;
    }

    public int pass(int seconds) throws IllegalArgumentException, IllegalStateException {
        if (seconds < 1 || seconds > MOST_SECONDS_TO_PASS) {
            throw new IllegalArgumentException("1 to 2000 seconds pass");
        }
        if (now + seconds > LAST_TIME) {
            throw new IllegalStateException("the time would be above 1000000");
        }
        int end = now + seconds;
        // Each stretch takes a second or more, so there are never more of them than seconds.
        for (int stretch = 0; stretch < seconds && now < end; stretch++) {
            passStretch(nextChange(end));
        }
        return now;
    }

    public int time() {
        return now;
    }

    // ---- what is

    public int ringing(int house) throws IndexOutOfBoundsException {
        return houseAt(house).ringingSet();
    }

    public boolean isSound(int house) throws IndexOutOfBoundsException {
        return houseAt(house).sound;
    }

    public int ringsLeft(int house, int melody) throws IndexOutOfBoundsException {
        House asked = houseAt(house);
        return melodyAt(melody).owner == house ? NONE : asked.rights[melody];
    }

    public int points(int house) throws IndexOutOfBoundsException {
        return houseAt(house).score;
    }

    public int secondsRung(int house) throws IndexOutOfBoundsException {
        return houseAt(house).rungSeconds;
    }

    public int quietBroken(int house) throws IndexOutOfBoundsException {
        return houseAt(house).rungQuietSeconds;
    }

    public int hushed(int house) throws IndexOutOfBoundsException {
        return houseAt(house).hushedPresses;
    }

    public int faults() {
        return faultCount;
    }

    public int faultAt(int place) throws IndexOutOfBoundsException {
        if (place < 0 || place >= faultCount) {
            throw new IndexOutOfBoundsException("no such fault");
        }
        return toldFaults[place];
    }

    // ---- looking up

    private void checkHouse(int house) {
        if (house < 0 || house >= HOUSES) {
            throw new IndexOutOfBoundsException("no such house");
        }
    }

    private House houseAt(int house) {
        checkHouse(house);
        return houses[house];
    }

    private Bell bellAt(int house, int bell) {
        House home = houseAt(house);
        if (bell < 0 || bell >= BELLS) {
            throw new IndexOutOfBoundsException("no such bell");
        }
        return home.bells[bell];
    }

    private Melody melodyAt(int melody) {
        Melody found = melody < 0 || melody >= MELODIES ? null : melodies[melody];
        if (found == null) {
            throw new IndexOutOfBoundsException("no such melody");
        }
        return found;
    }

    // ---- the passing of time

    /** The time, at most the given one, up to which the same bells ring, no crew is done and no day is over. */
    private int nextChange(int end) {
        int next = Math.min(end, now - now % DAY + DAY);
        for (House house : houses) {
            next = Math.min(next, house.firstStop(next));
        }
        for (Crew crew : crews) {
            if (crew.goal != null) {
                next = Math.min(next, crew.doneAt);
            }
        }
        return next;
    }

    private void passStretch(int until) {
        for (House house : houses) {
            house.spend(now, until);
        }
        now = until;
        for (House house : houses) {
            house.stopEndedBells(now);
        }
        for (Crew crew : crews) {
            crew.finish(now);
        }
        if (now % DAY == 0) {
            for (House house : houses) {
                house.closeDay();
            }
        }
    }

    private static final class Melody {
        private final int number;
        private final int owner;
        private final int count;
        private final long tones;

        Melody(int number, int owner, int count, long tones) {
            this.number = number;
            this.owner = owner;
            this.count = count;
            this.tones = tones;
        }

        int lasts() {
            return SECONDS_OF_A_TONE * count;
        }

        int tone(int place) {
            return (int) (tones >> (TONE_BITS * place)) & HIGHEST_TONE;
        }

        long tonesShifted(int by) {
            long result = 0;
            for (int place = count - 1; place >= 0; place--) {
                result = result << TONE_BITS | (tone(place) + by & HIGHEST_TONE);
            }
            return result;
        }

        long tonesTurned() {
            long result = 0;
            for (int place = 0; place < count; place++) {
                result = result << TONE_BITS | tone(place);
            }
            return result;
        }

        boolean isShiftOf(Melody other) {
            // Only one shift can bring the first tone to the other's first tone.
            int by = tone(0) - other.tone(0) & HIGHEST_TONE;
            return count == other.count && tones == other.tonesShifted(by);
        }
    }

    private static final class Bell {
        private Melody melody = null;
        private int load = 1;
        private boolean isRinging = false;
        private int stopsAt = 0;

        void ringUntil(int end) {
            isRinging = true;
            stopsAt = end;
        }
    }

    private static final class Crew {
        /** The house that it is under way to, or null. */
        private House goal = null;
        private int doneAt = 0;

        void finish(int time) {
            if (goal != null && doneAt <= time) {
                goal.sound = true;
                goal = null;
            }
        }
    }

    private static final class House {
        private final int number;
        private final int street;
        private final Bell[] bells = new Bell[BELLS];
        /** The rings left, by the melody's number. */
        private final int[] rights = new int[MELODIES];
        private boolean sound = true;
        private int quietFrom = 0;
        private int quietTo = 0;
        private int score = 0;
        private int rungSeconds = 0;
        private int rungQuietSeconds = 0;
        private int hushedPresses = 0;
        private int faultsOfTheDay = 0;
        private boolean keptQuietToday = true;

        House(int number) {
            this.number = number;
            this.street = number / HOUSES_OF_A_STREET;
            for (int bell = 0; bell < BELLS; bell++) {
                bells[bell] = new Bell();
            }
        }

        boolean isQuietAt(int time) {
            return quietSeconds(time, time + 1) > 0;
        }

        /** How many of the seconds from start up to end, all of one day, are quiet. */
        private int quietSeconds(int start, int end) {
            int first = start % DAY;
            int behind = first + end - start;
            if (quietFrom <= quietTo) {
                return shared(first, behind, quietFrom, quietTo);
            }
            return shared(first, behind, 0, quietTo) + shared(first, behind, quietFrom, DAY);
        }

        private static int shared(int from, int to, int otherFrom, int otherTo) {
            return Math.max(0, Math.min(to, otherTo) - Math.max(from, otherFrom));
        }

        boolean mayRing(Melody melody) {
            return melody.owner == number || rights[melody.number] > 0;
        }

        void useRight(Melody melody) {
            if (melody.owner != number) {
                rights[melody.number]--;
            }
        }

        int ringingSet() {
            int set = 0;
            for (int bell = 0; bell < BELLS; bell++) {
                if (bells[bell].isRinging) {
                    set |= 1 << bell;
                }
            }
            return set;
        }

        int ringingLoad() {
            int sum = 0;
            for (Bell bell : bells) {
                if (bell.isRinging) {
                    sum += bell.load;
                }
            }
            return sum;
        }

        /** Lets each bell that has a melody and does not ring begin, and tells how many did. */
        int startBells(int time) {
            int begun = 0;
            for (Bell bell : bells) {
                if (bell.melody != null && !bell.isRinging) {
                    bell.ringUntil(time + bell.melody.lasts());
                    begun++;
                }
            }
            return begun;
        }

        void breakDown() {
            sound = false;
            for (Bell bell : bells) {
                bell.isRinging = false;
            }
        }

        /** The time at which the first of its bells stops, or the given one if none does before. */
        int firstStop(int latest) {
            int first = latest;
            for (Bell bell : bells) {
                if (bell.isRinging && bell.stopsAt < first) {
                    first = bell.stopsAt;
                }
            }
            return first;
        }

        void stopEndedBells(int time) {
            for (Bell bell : bells) {
                if (bell.stopsAt <= time) {
                    bell.isRinging = false;
                }
            }
        }

        /** Counts the seconds from start up to end, all of one day, in which the same bells ring. */
        void spend(int start, int end) {
            if (ringingSet() == 0) {
                return;
            }
            int quiet = quietSeconds(start, end);
            rungSeconds += end - start;
            rungQuietSeconds += quiet;
            if (quiet > 0) {
                keptQuietToday = false;
            }
        }

        void closeDay() {
            if (keptQuietToday) {
                score++;
            }
            score -= POINTS_LOST_BY_A_FAULT * faultsOfTheDay;
            keptQuietToday = true;
            faultsOfTheDay = 0;
        }
    }
}
