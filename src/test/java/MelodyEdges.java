/** Promises 1 to 7: a new object, and melodies. Above a test stands the sentence of the document that it is for. */
final class MelodyEdges {
    private static final int MIN = Integer.MIN_VALUE, MAX = Integer.MAX_VALUE;
    private static final int[] NO_HOUSE = {-1, 8, MIN, MAX};
    private static final long ALL_TWELVE = 0xFFFFFFFFFFFFL;

    private static BellStreet withMelodies(int... counts) {
        BellStreet x = new BellStreet();
        for (int count : counts) {
            x.addMelody(0, count, 0);
        }
        return x;
    }

    private static BellStreet withTwelveMelodies() {
        return withMelodies(1, 2, 3, 4, 5, 6, 7, 8, 9, 10, 11, 12);
    }

    // "Begins at the time 0" / "Time is in seconds, from 0 on"
    static void promise1BeginsAtTheTime0(Due due) {
        BellStreet x = new BellStreet();
        due.is(0, () -> x.time());
        due.is(1, () -> x.pass(1));
    }

    // "with sound houses" / "A house is sound at first, or broken."
    static void promise1AllHousesAreSound(Due due) {
        BellStreet x = new BellStreet();
        for (int house = 0; house < 8; house++) {
            int h = house;
            due.tells(true, () -> x.isSound(h));
            due.fails(Due.STATE, () -> x.repair(h));
        }
    }

    // "without melodies"
    static void promise1ThereAreNoMelodies(Due due) {
        BellStreet x = new BellStreet();
        for (int melody = 0; melody <= 12; melody++) {
            int m = melody;
            due.fails(Due.INDEX, () -> x.toneAt(m, 0));
            due.fails(Due.INDEX, () -> x.shifted(m, 0));
            due.fails(Due.INDEX, () -> x.turned(m));
            due.fails(Due.INDEX, () -> x.areAlike(m, m));
            due.fails(Due.INDEX, () -> x.license(0, m, 1));
            due.fails(Due.INDEX, () -> x.lay(0, 0, m, 1));
            due.fails(Due.INDEX, () -> x.ringsLeft(0, m));
        }
        due.is(0, () -> x.addMelody(0, 1, 0));
    }

    // "at first it has none, and the load 1": the load is not seen before lay gives another one.
    static void promise1NoBellHasAMelody(Due due) {
        BellStreet x = new BellStreet();
        for (int place = 0; place < 24; place++) {
            int h = place / 3, b = place % 3;
            due.fails(Due.STATE, () -> x.press(h, b));
            due.is(BellStreet.NONE, () -> x.lay(h, b, BellStreet.NONE, 1));
        }
    }

    // "At first they are 0 and 0." / "if both are the same, there are none"
    static void promise1NoHouseIsQuiet(Due due) {
        BellStreet x = withMelodies(1);
        for (int house = 0; house < 8; house++) {
            x.lay(house, 0, 0, 1);
        }
        due.is(BellStreet.RINGS, () -> x.press(0, 0));
        for (int house = 1; house < 8; house++) {
            int h = house;
            due.is(BellStreet.NOTHING, () -> x.press(h, 0));
            due.is(0, () -> x.hushed(h));
        }
        x.pass(999);
        due.is(BellStreet.RINGS, () -> x.press(0, 0));
        due.is(BellStreet.NOTHING, () -> x.press(7, 0));
    }

    // "A house has a number of rings left for each melody, 0 at first"
    static void promise1NoHouseHasRingsLeft(Due due) {
        BellStreet x = withTwelveMelodies();
        for (int house = 1; house < 8; house++) {
            for (int melody = 0; melody < 12; melody++) {
                int h = house, m = melody;
                due.is(0, () -> x.ringsLeft(h, m));
            }
        }
    }

    // "An object is used for at most 512 calls after it has been made"
    static void promise1The512thCallAnswers(Due due) {
        BellStreet x = new BellStreet();
        for (int call = 1; call <= 511; call++) {
            int time = call;
            due.is(time, () -> x.pass(1));
        }
        due.is(511, () -> x.time());
    }

    // "Throws IndexOutOfBoundsException if there is no such house" / "Houses are 0 to 7"
    static void promise2NoSuchHouse(Due due) {
        BellStreet x = new BellStreet();
        for (int house : NO_HOUSE) {
            due.fails(Due.INDEX, () -> x.addMelody(house, 1, 0));
        }
    }

    static void promise2TheFirstAndTheLastHouseOwn(Due due) {
        BellStreet x = new BellStreet();
        due.is(0, () -> x.addMelody(0, 1, 0));
        due.is(1, () -> x.addMelody(7, 1, 0));
        due.is(BellStreet.NONE, () -> x.ringsLeft(0, 0));
        due.is(0, () -> x.ringsLeft(7, 0));
        due.is(0, () -> x.ringsLeft(0, 1));
        due.is(BellStreet.NONE, () -> x.ringsLeft(7, 1));
    }

    // "count: 1 to 12: how many tones it has" / "Throws IllegalArgumentException if count ... is out of range"
    static void promise2CountBelow1(Due due) {
        BellStreet x = new BellStreet();
        due.fails(Due.ARGUMENT, () -> x.addMelody(0, 0, 0));
        due.fails(Due.ARGUMENT, () -> x.addMelody(0, -1, 0));
        due.fails(Due.ARGUMENT, () -> x.addMelody(0, -64, 0));
        due.fails(Due.ARGUMENT, () -> x.addMelody(0, MIN, 0));
    }

    static void promise2CountAbove12(Due due) {
        BellStreet x = new BellStreet();
        due.fails(Due.ARGUMENT, () -> x.addMelody(0, 13, 0));
        due.fails(Due.ARGUMENT, () -> x.addMelody(0, 16, 0));
        due.fails(Due.ARGUMENT, () -> x.addMelody(0, 17, 0));
        due.fails(Due.ARGUMENT, () -> x.addMelody(0, MAX, 0));
    }

    static void promise2Count1And12(Due due) {
        BellStreet x = new BellStreet();
        due.is(0, () -> x.addMelody(0, 1, 7));
        due.is(1, () -> x.addMelody(0, 12, 7));
        due.is(7, () -> x.toneAt(0, 0));
        due.fails(Due.INDEX, () -> x.toneAt(0, 1));
        due.is(0, () -> x.toneAt(1, 11));
        due.fails(Due.INDEX, () -> x.toneAt(1, 12));
    }

    // "tones: 0 or more"
    static void promise2TonesBelow0(Due due) {
        BellStreet x = new BellStreet();
        for (int count = 1; count <= 12; count++) {
            int c = count;
            due.fails(Due.ARGUMENT, () -> x.addMelody(0, c, -1));
            due.fails(Due.ARGUMENT, () -> x.addMelody(0, c, Long.MIN_VALUE));
            due.fails(Due.ARGUMENT, () -> x.addMelody(0, c, Long.MIN_VALUE + 1));
        }
        due.is(0, () -> x.addMelody(0, 12, 0));
    }

    // "no bits above those"
    static void promise2NoBitAboveTheTones(Due due) {
        for (int count = 1; count <= 12; count++) {
            BellStreet x = new BellStreet();
            int c = count;
            for (int bit = 4 * count; bit < 64; bit++) {
                long tones = 1L << bit;
                due.fails(Due.ARGUMENT, () -> x.addMelody(0, c, tones));
            }
            due.fails(Due.ARGUMENT, () -> x.addMelody(0, c, Long.MAX_VALUE));
            due.is(0, () -> x.addMelody(0, c, 0));
        }
    }

    // "4 bits for each tone" / "each 0 to 15"
    static void promise2AllBitsOfTheTones(Due due) {
        BellStreet x = new BellStreet();
        for (int count = 1; count <= 12; count++) {
            int c = count, number = count - 1;
            long all = (1L << 4 * count) - 1;
            due.is(number, () -> x.addMelody(0, c, all));
            due.is(15, () -> x.toneAt(number, 0));
            due.is(15, () -> x.toneAt(number, number));
            due.is(all, () -> x.shifted(number, 0));
        }
    }

    // "Melodies are numbered from 0, at most 12." / "Throws IllegalStateException if there are 12"
    static void promise2TheTwelfthAndTheThirteenth(Due due) {
        BellStreet x = new BellStreet();
        for (int number = 0; number < 12; number++) {
            int n = number;
            due.is(n, () -> x.addMelody(0, 1, n));
        }
        due.fails(Due.STATE, () -> x.addMelody(0, 1, 0));
        due.fails(Due.STATE, () -> x.addMelody(7, 12, ALL_TWELVE));
        due.is(11, () -> x.toneAt(11, 0));
        due.fails(Due.INDEX, () -> x.toneAt(12, 0));
    }

    // "A call that throws an exception changes nothing.": no number is used up.
    static void promise2TheNextNumberAfterRefusedCalls(Due due) {
        BellStreet x = withMelodies(1);
        due.fails(Due.INDEX, () -> x.addMelody(8, 1, 0));
        due.fails(Due.ARGUMENT, () -> x.addMelody(0, 0, 0));
        due.fails(Due.ARGUMENT, () -> x.addMelody(0, 1, 16));
        due.fails(Due.INDEX, () -> x.turned(1));
        due.is(1, () -> x.addMelody(0, 1, 15));
    }

    // "If several exceptions of a throws clause apply, the one that is listed first is thrown."
    static void promise2WhichExceptionFirst(Due due) {
        BellStreet x = withTwelveMelodies();
        due.fails(Due.INDEX, () -> x.addMelody(8, 1, 0));
        due.fails(Due.INDEX, () -> x.addMelody(-1, 13, 0));
        due.fails(Due.INDEX, () -> x.addMelody(-1, 1, -1));
        due.fails(Due.ARGUMENT, () -> x.addMelody(0, 0, 0));
        due.fails(Due.ARGUMENT, () -> x.addMelody(0, 13, 0));
        due.fails(Due.ARGUMENT, () -> x.addMelody(0, 12, -1));
        due.fails(Due.ARGUMENT, () -> x.addMelody(0, 1, 16));
        due.fails(Due.STATE, () -> x.addMelody(0, 1, 15));
        BellStreet y = new BellStreet();
        due.fails(Due.INDEX, () -> y.addMelody(8, 0, -1));
    }

    // "Throws IndexOutOfBoundsException if there is no such melody"
    static void promise3NoSuchMelody(Due due) {
        BellStreet x = withMelodies(12, 12);
        due.fails(Due.INDEX, () -> x.toneAt(-1, 0));
        due.fails(Due.INDEX, () -> x.toneAt(2, 0));
        due.fails(Due.INDEX, () -> x.toneAt(11, 0));
        due.fails(Due.INDEX, () -> x.toneAt(12, 0));
        due.fails(Due.INDEX, () -> x.toneAt(MIN, 0));
        due.fails(Due.INDEX, () -> x.toneAt(MAX, 0));
        due.fails(Due.INDEX, () -> x.toneAt(2, -1));
    }

    // "or it does not have so many tones"
    static void promise3NotSoManyTones(Due due) {
        BellStreet x = withTwelveMelodies();
        for (int melody = 0; melody < 12; melody++) {
            int m = melody;
            due.is(0, () -> x.toneAt(m, m));
            due.fails(Due.INDEX, () -> x.toneAt(m, m + 1));
            due.fails(Due.INDEX, () -> x.toneAt(m, 16));
            due.fails(Due.INDEX, () -> x.toneAt(m, MAX));
        }
    }

    // "or place is below 0"
    static void promise3PlaceBelow0(Due due) {
        BellStreet x = withMelodies(1, 12);
        due.fails(Due.INDEX, () -> x.toneAt(0, -1));
        due.fails(Due.INDEX, () -> x.toneAt(1, -1));
        due.fails(Due.INDEX, () -> x.toneAt(1, -16));
        due.fails(Due.INDEX, () -> x.toneAt(1, MIN));
    }

    // "place: 0 for the first one" / "the first tone in the lowest ones"
    static void promise3TheFirstAndTheLastTone(Due due) {
        BellStreet x = new BellStreet();
        x.addMelody(0, 12, 0xF00000000001L);
        due.is(1, () -> x.toneAt(0, 0));
        due.is(0, () -> x.toneAt(0, 1));
        due.is(0, () -> x.toneAt(0, 10));
        due.is(15, () -> x.toneAt(0, 11));
    }

    static void promise4NoSuchMelody(Due due) {
        BellStreet x = withMelodies(12, 12);
        due.fails(Due.INDEX, () -> x.shifted(-1, 0));
        due.fails(Due.INDEX, () -> x.shifted(2, 0));
        due.fails(Due.INDEX, () -> x.shifted(12, 15));
        due.fails(Due.INDEX, () -> x.shifted(MIN, 0));
        due.fails(Due.INDEX, () -> x.shifted(MAX, 0));
    }

    // "by: 0 to 15" / "Throws IllegalArgumentException if by is out of range"
    static void promise4ByOutOfRange(Due due) {
        BellStreet x = withMelodies(3);
        due.fails(Due.ARGUMENT, () -> x.shifted(0, -1));
        due.fails(Due.ARGUMENT, () -> x.shifted(0, 16));
        due.fails(Due.ARGUMENT, () -> x.shifted(0, MIN));
        due.fails(Due.ARGUMENT, () -> x.shifted(0, MAX));
    }

    static void promise4By0And15(Due due) {
        BellStreet x = new BellStreet();
        x.addMelody(0, 3, 0xF10);
        due.is(0xF10, () -> x.shifted(0, 0));
        due.is(0xE0F, () -> x.shifted(0, 15));
    }

    // "adding one number to all tones, modulo 16": nothing is carried into the next tone, nor above the last one.
    static void promise4GoesRoundAt16(Due due) {
        BellStreet x = new BellStreet();
        x.addMelody(0, 1, 15);
        x.addMelody(0, 3, 0x0F0);
        x.addMelody(0, 12, ALL_TWELVE);
        due.is(0, () -> x.shifted(0, 1));
        due.is(14, () -> x.shifted(0, 15));
        due.is(0x101, () -> x.shifted(1, 1));
        due.is(0, () -> x.shifted(2, 1));
        due.is(0xEEEEEEEEEEEEL, () -> x.shifted(2, 15));
    }

    static void promise4EachTwelfthToneByEachNumber(Due due) {
        BellStreet x = new BellStreet();
        x.addMelody(0, 12, 0xFEDCBA987654L);
        for (int by = 0; by < 16; by++) {
            int b = by;
            long want = 0;
            for (int place = 11; place >= 0; place--) {
                want = want * 16 + (4 + place + by) % 16;
            }
            long answer = want;
            due.is(answer, () -> x.shifted(0, b));
        }
        due.is(0xFEDCBA987654L, () -> x.shifted(0, 0));
    }

    static void promise4WhichExceptionFirst(Due due) {
        BellStreet x = withMelodies(3);
        due.fails(Due.INDEX, () -> x.shifted(1, 16));
        due.fails(Due.INDEX, () -> x.shifted(-1, -1));
    }

    static void promise5NoSuchMelody(Due due) {
        BellStreet x = withMelodies(12, 12);
        due.fails(Due.INDEX, () -> x.turned(-1));
        due.fails(Due.INDEX, () -> x.turned(2));
        due.fails(Due.INDEX, () -> x.turned(12));
        due.fails(Due.INDEX, () -> x.turned(MIN));
        due.fails(Due.INDEX, () -> x.turned(MAX));
    }

    // "from the last to the first": of one tone, of two, of twelve
    static void promise5TheFewestAndTheMostTones(Due due) {
        BellStreet x = new BellStreet();
        x.addMelody(0, 1, 9);
        x.addMelody(0, 2, 0x21);
        x.addMelody(0, 12, 0xCBA987654321L);
        due.is(9, () -> x.turned(0));
        due.is(0x12, () -> x.turned(1));
        due.is(0x123456789ABCL, () -> x.turned(2));
    }

    // Tones of 0 at one end stay tones at the other end.
    static void promise5TonesOf0AtTheEnds(Due due) {
        BellStreet x = new BellStreet();
        x.addMelody(0, 12, 0x00000000000FL);
        x.addMelody(0, 12, 0xF00000000000L);
        x.addMelody(0, 3, 0x010);
        due.is(0xF00000000000L, () -> x.turned(0));
        due.is(0xFL, () -> x.turned(1));
        due.is(0x010, () -> x.turned(2));
        due.is(0xFL, () -> x.shifted(0, 0));
    }

    static void promise6NoSuchMelody(Due due) {
        BellStreet x = withMelodies(12, 12);
        for (int none : new int[] {-1, 2, 11, 12, MIN, MAX}) {
            due.fails(Due.INDEX, () -> x.areAlike(none, 0));
            due.fails(Due.INDEX, () -> x.areAlike(0, none));
            due.fails(Due.INDEX, () -> x.areAlike(none, none));
        }
    }

    // "Two melodies are alike if they have as many tones"
    static void promise6AnotherNumberOfTones(Due due) {
        BellStreet x = withTwelveMelodies();
        for (int one = 0; one < 12; one++) {
            for (int other = 0; other < 12; other++) {
                int a = one, b = other;
                due.tells(a == b, () -> x.areAlike(a, b));
            }
        }
    }

    // "by shifting: adding one number to all tones, modulo 16"
    static void promise6ShiftedByEachNumber(Due due) {
        for (int by = 0; by < 16; by++) {
            BellStreet x = new BellStreet();
            x.addMelody(0, 12, 0xFEDCBA987654L);
            x.addMelody(7, 12, x.shifted(0, by));
            due.tells(true, () -> x.areAlike(0, 1));
            due.tells(true, () -> x.areAlike(1, 0));
        }
    }

    static void promise6OneToneIsAlwaysAlike(Due due) {
        BellStreet x = new BellStreet();
        x.addMelody(0, 1, 0);
        x.addMelody(0, 1, 15);
        due.tells(true, () -> x.areAlike(0, 1));
        due.tells(true, () -> x.areAlike(1, 0));
    }

    // One tone of twelve is another one: the first, the last, one between.
    static void promise6OneToneIsAnother(Due due) {
        for (int place = 0; place < 12; place++) {
            BellStreet x = new BellStreet();
            x.addMelody(0, 12, 0x111111111111L);
            x.addMelody(0, 12, 0x222222222222L + (1L << 4 * place));
            due.tells(false, () -> x.areAlike(0, 1));
            due.tells(false, () -> x.areAlike(1, 0));
        }
    }

    static void promise7NoSuchHouse(Due due) {
        BellStreet x = withMelodies(1);
        for (int house : NO_HOUSE) {
            due.fails(Due.INDEX, () -> x.license(house, 0, 1));
        }
    }

    static void promise7NoSuchMelody(Due due) {
        BellStreet x = withMelodies(1);
        for (int melody : new int[] {-1, 1, 11, 12, MIN, MAX}) {
            due.fails(Due.INDEX, () -> x.license(1, melody, 1));
        }
    }

    // "rings: 1 to 1000" / "Throws IllegalArgumentException if rings is out of range"
    static void promise7RingsOutOfRange(Due due) {
        BellStreet x = withMelodies(1);
        for (int rings : new int[] {0, -1, 1001, MIN, MAX}) {
            due.fails(Due.ARGUMENT, () -> x.license(1, 0, rings));
        }
        due.is(0, () -> x.ringsLeft(1, 0));
    }

    static void promise7Rings1And1000(Due due) {
        BellStreet x = withMelodies(1);
        due.is(1, () -> x.license(1, 0, 1));
        due.is(1000, () -> x.license(2, 0, 1000));
    }

    // "Throws IllegalStateException if the house is the owner"
    static void promise7TheOwner(Due due) {
        BellStreet x = withMelodies(1);
        x.addMelody(7, 1, 0);
        due.fails(Due.STATE, () -> x.license(0, 0, 1));
        due.fails(Due.STATE, () -> x.license(7, 1, 1000));
        due.is(1, () -> x.license(7, 0, 1));
        due.is(1, () -> x.license(0, 1, 1));
        due.is(BellStreet.NONE, () -> x.ringsLeft(0, 0));
    }

    // "or it would have more than 1000"
    static void promise7MoreThan1000(Due due) {
        BellStreet x = withMelodies(1);
        due.is(999, () -> x.license(1, 0, 999));
        due.fails(Due.STATE, () -> x.license(1, 0, 2));
        due.fails(Due.STATE, () -> x.license(1, 0, 1000));
        due.is(1000, () -> x.license(1, 0, 1));
        due.fails(Due.STATE, () -> x.license(1, 0, 1));
        due.is(1000, () -> x.ringsLeft(1, 0));
    }

    static void promise7TheMostIsOfEachHouseAndMelody(Due due) {
        BellStreet x = withMelodies(1, 1);
        due.is(1000, () -> x.license(1, 0, 1000));
        due.is(1000, () -> x.license(1, 1, 1000));
        due.is(1000, () -> x.license(7, 0, 1000));
        due.is(0, () -> x.ringsLeft(7, 1));
    }

    // What has been rung can be given again, up to 1000.
    static void promise7RoomAgainAfterARing(Due due) {
        BellStreet x = withMelodies(1);
        x.license(1, 0, 1000);
        x.lay(1, 0, 0, 1);
        x.press(1, 0);
        due.fails(Due.STATE, () -> x.license(1, 0, 2));
        due.is(1000, () -> x.license(1, 0, 1));
    }

    static void promise7WhichExceptionFirst(Due due) {
        BellStreet x = withMelodies(1);
        x.license(1, 0, 1000);
        due.fails(Due.INDEX, () -> x.license(8, 0, 0));
        due.fails(Due.INDEX, () -> x.license(8, 1, 1001));
        due.fails(Due.INDEX, () -> x.license(0, 1, 0));
        due.fails(Due.ARGUMENT, () -> x.license(0, 0, 0));
        due.fails(Due.ARGUMENT, () -> x.license(1, 0, 1001));
    }
}
