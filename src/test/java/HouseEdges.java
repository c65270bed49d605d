/** Promises 8 to 14: houses and time. Above a test stands the sentence of the document that it is for. */
final class HouseEdges {
    private static final int MIN = Integer.MIN_VALUE, MAX = Integer.MAX_VALUE;
    private static final int[] NO_HOUSE = {-1, 8, MIN, MAX};
    private static final int[] NO_BELL = {-1, 3, MIN, MAX};
    private static final int[] EDGES_OF_THE_DAY = {0, 1, 499, 500, 501, 998, 999};

    /** A house with a melody of its own of that many tones, the number 0, at all its bells, each of the load 1. */
    private static BellStreet withBells(int house, int tones) {
        BellStreet x = new BellStreet();
        x.addMelody(house, tones, 0);
        layAll(x, house);
        return x;
    }

    private static void layAll(BellStreet x, int house) {
        for (int bell = 0; bell < 3; bell++) {
            x.lay(house, bell, 0, 1);
        }
    }

    private static BellStreet withBellsEverywhere(int tones) {
        BellStreet x = new BellStreet();
        x.addMelody(0, tones, 0);
        for (int house = 0; house < 8; house++) {
            layAll(x, house);
        }
        return x;
    }

    private static boolean isWithin(int second, int from, int to) {
        for (int s = from; s != to; s = (s + 1) % 1000) {
            if (s == second) {
                return true;
            }
        }
        return false;
    }

    /** 100 faults, two in each of the 50 rounds; all are repaired then. */
    private static BellStreet withAHundredFaults() {
        BellStreet x = new BellStreet();
        for (int round = 0; round < 50; round++) {
            x.fault(0);
            x.fault(4);
            x.repair(0);
            x.repair(4);
            x.pass(50);
        }
        return x;
    }

    static void promise8NoSuchHouse(Due due) {
        BellStreet x = new BellStreet();
        for (int house : NO_HOUSE) {
            due.fails(Due.INDEX, () -> x.setQuiet(house, 0, 0));
        }
    }

    // "from: 0 to 999" / "Throws IllegalArgumentException if from ... is out of range"
    static void promise8FromOutOfRange(Due due) {
        BellStreet x = new BellStreet();
        for (int from : new int[] {-1, 1000, MIN, MAX}) {
            due.fails(Due.ARGUMENT, () -> x.setQuiet(0, from, 5));
        }
    }

    // "to: 0 to 999"
    static void promise8ToOutOfRange(Due due) {
        BellStreet x = new BellStreet();
        for (int to : new int[] {-1, 1000, MIN, MAX}) {
            due.fails(Due.ARGUMENT, () -> x.setQuiet(0, 5, to));
        }
    }

    static void promise8From0And999To0And999(Due due) {
        BellStreet x = new BellStreet();
        due.tells(true, () -> x.setQuiet(0, 0, 999));
        due.tells(false, () -> x.setQuiet(0, 999, 0));
        due.tells(false, () -> x.setQuiet(7, 0, 0));
        due.tells(false, () -> x.setQuiet(7, 999, 999));
    }

    // "from a second of the day up to, not including, another one"
    static void promise8FromIsWithinAndToIsNot(Due due) {
        BellStreet x = new BellStreet();
        x.pass(500);
        due.tells(true, () -> x.setQuiet(0, 500, 501));
        due.tells(false, () -> x.setQuiet(0, 501, 502));
        due.tells(false, () -> x.setQuiet(0, 499, 500));
        due.tells(true, () -> x.setQuiet(0, 499, 501));
    }

    // "if the second one is less, over the end of the day"
    static void promise8OverTheEndOfTheDay(Due due) {
        BellStreet x = new BellStreet();
        due.tells(true, () -> x.setQuiet(0, 999, 1));
        due.tells(false, () -> x.setQuiet(0, 999, 0));
        x.pass(1);
        due.tells(false, () -> x.setQuiet(0, 999, 1));
        due.tells(true, () -> x.setQuiet(0, 999, 2));
        due.tells(true, () -> x.setQuiet(0, 1, 0));
        due.tells(false, () -> x.setQuiet(0, 2, 0));
        due.tells(false, () -> x.setQuiet(0, 2, 1));
        x.pass(998);
        due.tells(true, () -> x.setQuiet(0, 999, 0));
        due.tells(true, () -> x.setQuiet(0, 999, 998));
        due.tells(false, () -> x.setQuiet(0, 998, 999));
    }

    // "if both are the same, there are none": in that very second too
    static void promise8FromAndToAreTheSame(Due due) {
        for (int second : EDGES_OF_THE_DAY) {
            BellStreet x = new BellStreet();
            x.pass(second + 1000);
            for (int both : EDGES_OF_THE_DAY) {
                due.tells(false, () -> x.setQuiet(0, both, both));
            }
        }
    }

    // "the second of the day of a time is its remainder by 1000"
    static void promise8OnLaterDays(Due due) {
        for (int second : EDGES_OF_THE_DAY) {
            BellStreet x = new BellStreet();
            x.pass(1000);
            x.pass(second + 1000);
            for (int from : EDGES_OF_THE_DAY) {
                for (int to : EDGES_OF_THE_DAY) {
                    due.tells(isWithin(second, from, to), () -> x.setQuiet(3, from, to));
                }
            }
        }
    }

    // "Returns whether it is quiet there now, behind that.": not as it was before it
    static void promise8AsItIsBehindThat(Due due) {
        BellStreet x = new BellStreet();
        due.tells(true, () -> x.setQuiet(0, 0, 1));
        due.tells(false, () -> x.setQuiet(0, 1, 2));
        due.tells(true, () -> x.setQuiet(0, 0, 1));
        due.tells(false, () -> x.setQuiet(1, 0, 0));
    }

    // What rings goes on ringing when it gets quiet.
    static void promise8DoesNotStopABell(Due due) {
        BellStreet x = withBells(0, 2);
        x.press(0, 0);
        due.tells(true, () -> x.setQuiet(0, 0, 999));
        due.is(1, () -> x.ringing(0));
        x.pass(3);
        due.is(1, () -> x.ringing(0));
    }

    static void promise8WhichExceptionFirst(Due due) {
        BellStreet x = new BellStreet();
        due.fails(Due.INDEX, () -> x.setQuiet(8, 1000, 0));
        due.fails(Due.INDEX, () -> x.setQuiet(-1, 0, -1));
    }

    static void promise9NoSuchHouse(Due due) {
        BellStreet x = withBells(0, 1);
        for (int house : NO_HOUSE) {
            due.fails(Due.INDEX, () -> x.lay(house, 0, 0, 1));
            due.fails(Due.INDEX, () -> x.lay(house, 0, BellStreet.NONE, 1));
        }
    }

    // "bell: 0 to 2" / "A house has 3 bells, 0 to 2."
    static void promise9NoSuchBell(Due due) {
        BellStreet x = withBells(0, 1);
        for (int bell : NO_BELL) {
            due.fails(Due.INDEX, () -> x.lay(0, bell, 0, 1));
            due.fails(Due.INDEX, () -> x.lay(7, bell, BellStreet.NONE, 1));
        }
    }

    // "melody: a melody; or NONE"
    static void promise9NoSuchMelody(Due due) {
        BellStreet x = withBells(0, 1);
        for (int melody : new int[] {-2, 1, 11, 12, MIN, MAX}) {
            due.fails(Due.INDEX, () -> x.lay(0, 0, melody, 1));
        }
    }

    static void promise9NoneTakesTheMelody(Due due) {
        BellStreet x = withBells(0, 1);
        due.is(0, () -> x.lay(0, 0, BellStreet.NONE, 1));
        due.fails(Due.STATE, () -> x.press(0, 0));
        due.is(0, () -> x.ringing(0));
    }

    // "load: 1 to 9" / "Throws IllegalArgumentException if load is out of range"
    static void promise9LoadOutOfRange(Due due) {
        BellStreet x = withBells(0, 1);
        for (int load : new int[] {0, 10, -1, MIN, MAX}) {
            due.fails(Due.ARGUMENT, () -> x.lay(0, 0, 0, load));
            due.fails(Due.ARGUMENT, () -> x.lay(0, 0, BellStreet.NONE, load));
        }
    }

    static void promise9Load1And9(Due due) {
        BellStreet x = withBells(0, 1);
        due.is(0, () -> x.lay(0, 0, 0, 1));
        due.is(0, () -> x.lay(0, 2, 0, 9));
        due.is(BellStreet.RINGS, () -> x.press(0, 0));
        due.is(BellStreet.RINGS, () -> x.press(0, 2));
    }

    // "Returns the melody that it had; NONE."
    static void promise9WhatItHad(Due due) {
        BellStreet x = new BellStreet();
        x.addMelody(0, 1, 0);
        x.addMelody(1, 1, 0);
        due.is(BellStreet.NONE, () -> x.lay(0, 0, 0, 1));
        due.is(0, () -> x.lay(0, 0, 0, 1));
        due.is(0, () -> x.lay(0, 0, 1, 1));
        due.is(1, () -> x.lay(0, 0, BellStreet.NONE, 1));
        due.is(BellStreet.NONE, () -> x.lay(0, 0, BellStreet.NONE, 1));
        due.is(BellStreet.NONE, () -> x.lay(7, 2, 1, 1));
        due.is(1, () -> x.lay(7, 2, 0, 1));
    }

    // "if it rings, it stops": it alone
    static void promise9StopsTheBell(Due due) {
        BellStreet x = withBells(0, 6);
        for (int bell = 0; bell < 3; bell++) {
            x.press(0, bell);
        }
        due.is(0, () -> x.lay(0, 1, 0, 1));
        due.is(5, () -> x.ringing(0));
        due.is(0, () -> x.lay(0, 2, BellStreet.NONE, 1));
        due.is(1, () -> x.ringing(0));
        due.is(0, () -> x.lay(0, 0, 0, 9));
        due.is(0, () -> x.ringing(0));
        x.pass(12);
        due.is(0, () -> x.secondsRung(0));
    }

    // A bell that was laid and is pressed again rings for all of its new melody.
    static void promise9RingsAnewAfterThat(Due due) {
        BellStreet x = withBells(0, 1);
        x.addMelody(0, 2, 0);
        x.press(0, 0);
        x.pass(1);
        due.is(0, () -> x.lay(0, 0, 1, 1));
        due.is(BellStreet.RINGS, () -> x.press(0, 0));
        x.pass(3);
        due.is(1, () -> x.ringing(0));
        x.pass(1);
        due.is(0, () -> x.ringing(0));
    }

    static void promise9AtABrokenHouse(Due due) {
        BellStreet x = withBells(0, 1);
        x.fault(0);
        due.is(0, () -> x.lay(0, 0, BellStreet.NONE, 9));
        due.tells(false, () -> x.isSound(0));
    }

    static void promise9WhichExceptionFirst(Due due) {
        BellStreet x = withBells(0, 1);
        due.fails(Due.INDEX, () -> x.lay(8, 0, 0, 0));
        due.fails(Due.INDEX, () -> x.lay(0, 3, 0, 10));
        due.fails(Due.INDEX, () -> x.lay(0, 0, 1, 0));
        due.fails(Due.INDEX, () -> x.lay(0, 0, -2, 10));
    }

    static void promise10NoSuchHouse(Due due) {
        BellStreet x = withBellsEverywhere(1);
        for (int house : NO_HOUSE) {
            due.fails(Due.INDEX, () -> x.press(house, 0));
        }
    }

    static void promise10NoSuchBell(Due due) {
        BellStreet x = withBellsEverywhere(1);
        for (int bell : NO_BELL) {
            due.fails(Due.INDEX, () -> x.press(0, bell));
            due.fails(Due.INDEX, () -> x.press(7, bell));
        }
        due.is(0, () -> x.ringing(0));
    }

    // "Throws IllegalStateException if the bell has no melody"
    static void promise10NoMelody(Due due) {
        BellStreet x = new BellStreet();
        x.addMelody(0, 1, 0);
        x.lay(0, 1, 0, 1);
        due.fails(Due.STATE, () -> x.press(0, 0));
        due.is(BellStreet.RINGS, () -> x.press(0, 1));
        due.fails(Due.STATE, () -> x.press(0, 2));
        due.fails(Due.STATE, () -> x.press(1, 1));
    }

    static void promise10NoMelodyWhereItIsQuietOrBroken(Due due) {
        BellStreet x = new BellStreet();
        x.setQuiet(0, 0, 1);
        due.fails(Due.STATE, () -> x.press(0, 0));
        due.is(0, () -> x.hushed(0));
        x.fault(0);
        due.fails(Due.STATE, () -> x.press(0, 0));
    }

    static void promise10WhichExceptionFirst(Due due) {
        BellStreet x = new BellStreet();
        due.fails(Due.INDEX, () -> x.press(8, 0));
        due.fails(Due.INDEX, () -> x.press(0, 3));
    }

    // "if the house is broken ... nothing", though it is quiet: nothing is hushed
    static void promise10AtABrokenHouse(Due due) {
        BellStreet x = withBells(0, 1);
        x.fault(0);
        due.is(BellStreet.NOTHING, () -> x.press(0, 0));
        x.setQuiet(0, 0, 1);
        due.is(BellStreet.NOTHING, () -> x.press(0, 0));
        due.is(0, () -> x.hushed(0));
        due.is(0, () -> x.ringing(0));
    }

    // "or the bell rings already, nothing", though it is quiet, and it does not ring any longer by that
    static void promise10ItRingsAlready(Due due) {
        BellStreet x = withBells(0, 2);
        x.press(0, 0);
        due.is(BellStreet.NOTHING, () -> x.press(0, 0));
        x.pass(3);
        x.setQuiet(0, 0, 999);
        due.is(BellStreet.NOTHING, () -> x.press(0, 0));
        due.is(0, () -> x.hushed(0));
        x.pass(1);
        due.is(0, () -> x.ringing(0));
    }

    // The load of a bell that rings already is not added again, and no ring is taken for it.
    static void promise10ItRingsAlreadyWithAHighLoad(Due due) {
        BellStreet x = withBells(0, 2);
        x.lay(1, 0, 0, 9);
        x.license(1, 0, 2);
        x.press(1, 0);
        due.is(BellStreet.NOTHING, () -> x.press(1, 0));
        due.tells(true, () -> x.isSound(1));
        due.is(1, () -> x.ringsLeft(1, 0));
    }

    // "if it is quiet in the house now, the press is hushed": from the first quiet second to the last one
    static void promise10HushedInTheFirstAndTheLastQuietSecond(Due due) {
        BellStreet x = withBells(0, 1);
        x.setQuiet(0, 10, 12);
        x.pass(10);
        due.is(BellStreet.HUSHED, () -> x.press(0, 0));
        x.pass(1);
        due.is(BellStreet.HUSHED, () -> x.press(0, 0));
        x.pass(1);
        due.is(BellStreet.RINGS, () -> x.press(0, 0));
        due.is(2, () -> x.hushed(0));
    }

    static void promise10RingsJustBeforeTheQuietHours(Due due) {
        BellStreet x = withBells(0, 1);
        x.setQuiet(0, 10, 12);
        x.pass(9);
        due.is(BellStreet.RINGS, () -> x.press(0, 0));
        due.is(0, () -> x.hushed(0));
    }

    static void promise10HushedOverTheEndOfTheDay(Due due) {
        BellStreet x = withBells(0, 1);
        x.setQuiet(0, 999, 1);
        due.is(BellStreet.HUSHED, () -> x.press(0, 0));
        x.pass(1);
        due.is(BellStreet.RINGS, () -> x.press(0, 0));
        x.pass(997);
        due.is(BellStreet.RINGS, () -> x.press(0, 1));
        x.pass(1);
        due.is(BellStreet.HUSHED, () -> x.press(0, 0));
        x.pass(1);
        due.is(BellStreet.HUSHED, () -> x.press(0, 0));
    }

    // A hushed press takes no ring and breaks nothing, and comes before the rights and the loads.
    static void promise10HushedBeforeRightsAndLoads(Due due) {
        BellStreet x = withBells(0, 2);
        x.lay(1, 0, 0, 6);
        x.lay(1, 1, 0, 6);
        x.license(1, 0, 1);
        x.press(1, 0);
        x.setQuiet(1, 0, 1);
        due.is(BellStreet.HUSHED, () -> x.press(1, 1));
        x.license(1, 0, 1);
        due.is(BellStreet.HUSHED, () -> x.press(1, 1));
        due.is(1, () -> x.ringsLeft(1, 0));
        due.tells(true, () -> x.isSound(1));
        due.is(1, () -> x.ringing(1));
    }

    // "if the melody is of another owner, and the house has no ring left for it, nothing"
    static void promise10NoRingLeft(Due due) {
        BellStreet x = withBells(0, 1);
        x.addMelody(0, 1, 0);
        layAll(x, 1);
        due.is(BellStreet.NOTHING, () -> x.press(1, 0));
        x.license(1, 1, 1000);
        x.license(2, 0, 1000);
        due.is(BellStreet.NOTHING, () -> x.press(1, 0));
        due.is(0, () -> x.ringing(1));
        due.is(1000, () -> x.ringsLeft(1, 1));
    }

    // "and for the melody of another owner one ring less is left": down to the last one
    static void promise10TheLastRing(Due due) {
        BellStreet x = withBells(0, 1);
        layAll(x, 1);
        x.license(1, 0, 2);
        due.is(BellStreet.RINGS, () -> x.press(1, 0));
        due.is(1, () -> x.ringsLeft(1, 0));
        due.is(BellStreet.RINGS, () -> x.press(1, 1));
        due.is(0, () -> x.ringsLeft(1, 0));
        due.is(BellStreet.NOTHING, () -> x.press(1, 2));
        due.is(0, () -> x.ringsLeft(1, 0));
        due.is(3, () -> x.ringing(1));
    }

    // "its own melodies it can ring without that"
    static void promise10OwnMelodiesWithoutRights(Due due) {
        BellStreet x = withBells(7, 1);
        for (int time = 0; time < 20; time += 2) {
            due.is(BellStreet.RINGS, () -> x.press(7, 0));
            x.pass(2);
        }
        due.is(BellStreet.NONE, () -> x.ringsLeft(7, 0));
    }

    // No right comes before the load: a bell without a ring left does not break the house.
    static void promise10RightsBeforeLoads(Due due) {
        BellStreet x = withBells(0, 2);
        x.lay(1, 0, 0, 9);
        x.lay(1, 1, 0, 9);
        x.license(1, 0, 1);
        x.press(1, 0);
        due.is(BellStreet.NOTHING, () -> x.press(1, 1));
        due.tells(true, () -> x.isSound(1));
    }

    // "together above 10": 10 is not
    static void promise10ALoadOf10And11(Due due) {
        for (int load = 1; load <= 9; load++) {
            BellStreet x = withBells(0, 2);
            x.lay(0, 0, 0, load);
            x.lay(0, 1, 0, 10 - load);
            x.lay(0, 2, 0, 1);
            due.is(BellStreet.RINGS, () -> x.press(0, 0));
            due.is(BellStreet.RINGS, () -> x.press(0, 1));
            due.is(BellStreet.BROKEN, () -> x.press(0, 2));
        }
    }

    static void promise10ALoadOf27(Due due) {
        BellStreet x = withBellsEverywhere(2);
        for (int bell = 0; bell < 3; bell++) {
            x.lay(1, bell, 0, 9);
        }
        x.fault(0);
        x.lay(1, 2, 0, 9);
        due.is(3, () -> x.ringing(1));
        x.license(1, 0, 1);
        due.is(BellStreet.BROKEN, () -> x.press(1, 2));
    }

    // "the loads of the bells of the house that ring": not of those that do not, nor of another house
    static void promise10LoadsOfWhatRingsAlone(Due due) {
        BellStreet x = withBells(0, 1);
        x.lay(0, 0, 0, 9);
        x.lay(0, 1, 0, 9);
        x.lay(1, 0, 0, 9);
        x.license(1, 0, 1);
        due.is(BellStreet.RINGS, () -> x.press(0, 0));
        due.is(BellStreet.RINGS, () -> x.press(1, 0));
        x.pass(2);
        due.is(BellStreet.RINGS, () -> x.press(0, 1));
        x.lay(0, 1, 0, 9);
        due.is(BellStreet.RINGS, () -> x.press(0, 0));
    }

    // "the house is broken, and its bells stop"
    static void promise10BreaksAndStops(Due due) {
        BellStreet x = withBells(0, 6);
        x.lay(0, 2, 0, 9);
        x.press(0, 0);
        x.press(0, 1);
        x.pass(1);
        due.is(BellStreet.BROKEN, () -> x.press(0, 2));
        due.is(0, () -> x.ringing(0));
        due.tells(false, () -> x.isSound(0));
        due.tells(true, () -> x.isSound(1));
        x.pass(11);
        due.is(1, () -> x.secondsRung(0));
    }

    // "that is no fault that is told, and loses no points"; no ring is taken by it
    static void promise10BreakingIsNoFault(Due due) {
        BellStreet x = withBells(0, 6);
        layAll(x, 1);
        x.lay(1, 0, 0, 9);
        x.lay(1, 1, 0, 9);
        x.license(1, 0, 2);
        x.press(1, 0);
        due.is(BellStreet.BROKEN, () -> x.press(1, 1));
        due.is(1, () -> x.ringsLeft(1, 0));
        due.is(0, () -> x.faults());
        due.is(0, () -> x.ringing(0));
        x.pass(1000);
        due.is(1, () -> x.points(1));
    }

    // "rings in as many seconds as its melody lasts, the one that begins with this time included"
    static void promise10RingsForTwoSecondsForEachTone(Due due) {
        for (int tones = 1; tones <= 12; tones++) {
            BellStreet x = withBells(0, tones);
            int lasts = 2 * tones;
            x.pass(7);
            x.press(0, 1);
            due.is(2, () -> x.ringing(0));
            x.pass(lasts - 1);
            due.is(2, () -> x.ringing(0));
            x.pass(1);
            due.is(0, () -> x.ringing(0));
            due.is(lasts, () -> x.secondsRung(0));
        }
    }

    static void promise10AgainInTheSecondInWhichItStopped(Due due) {
        BellStreet x = withBells(0, 1);
        x.press(0, 0);
        x.pass(1);
        due.is(BellStreet.NOTHING, () -> x.press(0, 0));
        x.pass(1);
        due.is(BellStreet.RINGS, () -> x.press(0, 0));
        x.pass(2);
        due.is(4, () -> x.secondsRung(0));
    }

    static void promise11NoSuchHouse(Due due) {
        BellStreet x = new BellStreet();
        for (int house : NO_HOUSE) {
            due.fails(Due.INDEX, () -> x.fault(house));
        }
        due.is(0, () -> x.faults());
    }

    // "Throws IllegalStateException if it is broken": by a fault, or by a press, until it is repaired
    static void promise11ItIsBroken(Due due) {
        BellStreet x = withBells(7, 1);
        x.lay(7, 0, 0, 5);
        x.lay(7, 1, 0, 6);
        x.press(7, 0);
        x.press(7, 1);
        due.fails(Due.STATE, () -> x.fault(7));
        x.fault(0);
        due.fails(Due.STATE, () -> x.fault(0));
        x.repair(0);
        x.pass(49);
        due.fails(Due.STATE, () -> x.fault(0));
        x.pass(1);
        due.is(0, () -> x.fault(0));
    }

    // "or there were 100 faults": the 100th is the last one
    static void promise11TheHundredthAndTheNext(Due due) {
        BellStreet x = new BellStreet();
        for (int round = 0; round < 33; round++) {
            x.fault(0);
            x.fault(1);
            x.fault(4);
            for (int house : new int[] {0, 4}) {
                x.repair(house);
            }
            x.pass(50);
            x.repair(1);
            x.pass(50);
        }
        due.is(99, () -> x.faults());
        due.is(0, () -> x.fault(7));
        due.is(100, () -> x.faults());
        due.fails(Due.STATE, () -> x.fault(0));
        due.fails(Due.STATE, () -> x.fault(7));
        due.is(100, () -> x.faults());
        due.tells(true, () -> x.isSound(0));
    }

    // A refused fault rings no bell and breaks nothing.
    static void promise11NothingRingsByARefusedFault(Due due) {
        BellStreet x = withAHundredFaults();
        x.addMelody(0, 1, 0);
        layAll(x, 1);
        due.fails(Due.STATE, () -> x.fault(0));
        due.is(0, () -> x.ringing(1));
        due.tells(true, () -> x.isSound(0));
    }

    // A house can still break by its load when there were 100 faults.
    static void promise11BreakingByLoadIsNotCounted(Due due) {
        BellStreet x = withAHundredFaults();
        x.addMelody(0, 1, 0);
        layAll(x, 0);
        x.lay(0, 0, 0, 9);
        x.lay(0, 1, 0, 9);
        x.press(0, 0);
        due.is(BellStreet.BROKEN, () -> x.press(0, 1));
        due.is(100, () -> x.faults());
    }

    static void promise11WhichExceptionFirst(Due due) {
        BellStreet x = withAHundredFaults();
        due.fails(Due.INDEX, () -> x.fault(8));
        due.fails(Due.INDEX, () -> x.fault(-1));
    }

    // "Returns how many bells of other houses begin to ring by it.": none, and as many as can be
    static void promise11NoneAndNineBegin(Due due) {
        BellStreet x = new BellStreet();
        due.is(0, () -> x.fault(4));
        BellStreet y = withBellsEverywhere(1);
        due.is(9, () -> y.fault(0));
        due.is(9, () -> y.fault(7));
    }

    // "of its street" / "the street 0 has the houses 0 to 3, the street 1 the others"
    static void promise11TheEdgeBetweenTheStreets(Due due) {
        BellStreet x = withBellsEverywhere(1);
        x.fault(3);
        for (int house = 0; house < 8; house++) {
            int h = house;
            due.is(h < 3 ? 7 : 0, () -> x.ringing(h));
        }
        BellStreet y = withBellsEverywhere(1);
        y.fault(4);
        for (int house = 0; house < 8; house++) {
            int h = house;
            due.is(h > 4 ? 7 : 0, () -> y.ringing(h));
        }
    }

    // "each bell with a melody"
    static void promise11BellsWithoutAMelody(Due due) {
        BellStreet x = withBells(0, 1);
        x.lay(0, 1, BellStreet.NONE, 1);
        due.is(2, () -> x.fault(3));
        due.is(5, () -> x.ringing(0));
    }

    // "of all sound houses of its street"
    static void promise11BrokenHousesStaySilent(Due due) {
        BellStreet x = withBellsEverywhere(1);
        due.is(9, () -> x.fault(0));
        x.pass(2);
        due.is(6, () -> x.fault(1));
        due.is(0, () -> x.ringing(0));
        x.pass(2);
        due.is(3, () -> x.fault(2));
        x.pass(2);
        due.is(0, () -> x.fault(3));
    }

    // "that does not ring": what rings already is not counted, and ends by its own time
    static void promise11WhatRingsAlready(Due due) {
        BellStreet x = withBells(0, 2);
        x.press(0, 0);
        x.pass(1);
        due.is(2, () -> x.fault(1));
        due.is(7, () -> x.ringing(0));
        due.is(0, () -> x.fault(2));
        x.pass(3);
        due.is(6, () -> x.ringing(0));
        x.pass(1);
        due.is(0, () -> x.ringing(0));
    }

    // "whatever hours, rights and loads are": none of them is used
    static void promise11HoursRightsAndLoads(Due due) {
        BellStreet x = withBells(0, 1);
        for (int bell = 0; bell < 3; bell++) {
            x.lay(1, bell, 0, 9);
            x.lay(2, bell, 0, 9);
        }
        x.license(2, 0, 1);
        x.setQuiet(1, 0, 1);
        due.is(9, () -> x.fault(3));
        due.is(7, () -> x.ringing(1));
        due.is(7, () -> x.ringing(2));
        due.tells(true, () -> x.isSound(1));
        due.is(0, () -> x.hushed(1));
        due.is(0, () -> x.ringsLeft(1, 0));
        due.is(1, () -> x.ringsLeft(2, 0));
    }

    // "then the house itself is broken, and its bells stop": its own bells are not counted
    static void promise11TheHouseItself(Due due) {
        BellStreet x = withBells(0, 6);
        x.press(0, 0);
        x.pass(1);
        due.is(0, () -> x.fault(0));
        due.is(0, () -> x.ringing(0));
        due.tells(false, () -> x.isSound(0));
        due.tells(true, () -> x.isSound(1));
        x.pass(11);
        due.is(1, () -> x.secondsRung(0));
    }

    static void promise11TheBeginOfARingIncluded(Due due) {
        BellStreet x = withBells(0, 1);
        x.pass(9);
        x.fault(1);
        x.pass(1);
        due.is(7, () -> x.ringing(0));
        x.pass(1);
        due.is(0, () -> x.ringing(0));
        due.is(2, () -> x.secondsRung(0));
    }

    static void promise12NoSuchHouse(Due due) {
        BellStreet x = new BellStreet();
        for (int house : NO_HOUSE) {
            due.fails(Due.INDEX, () -> x.repair(house));
        }
    }

    // "Throws IllegalStateException if it is sound"
    static void promise12ItIsSound(Due due) {
        BellStreet x = new BellStreet();
        due.fails(Due.STATE, () -> x.repair(0));
        x.fault(7);
        due.fails(Due.STATE, () -> x.repair(6));
        due.is(50, () -> x.repair(7));
        x.pass(50);
        due.fails(Due.STATE, () -> x.repair(7));
    }

    // "or the crew is under way": to the same house, or to another one of the street
    static void promise12TheCrewIsUnderWay(Due due) {
        BellStreet x = new BellStreet();
        x.fault(0);
        x.fault(3);
        due.is(50, () -> x.repair(0));
        due.fails(Due.STATE, () -> x.repair(0));
        due.fails(Due.STATE, () -> x.repair(3));
        x.pass(49);
        due.fails(Due.STATE, () -> x.repair(3));
        due.fails(Due.STATE, () -> x.repair(0));
        x.pass(1);
        due.is(100, () -> x.repair(3));
    }

    // "Each street has a crew.": the houses 3 and 4 have different ones
    static void promise12TheEdgeBetweenTheStreets(Due due) {
        BellStreet x = new BellStreet();
        x.fault(3);
        x.fault(4);
        x.fault(7);
        due.is(50, () -> x.repair(3));
        due.is(50, () -> x.repair(4));
        due.fails(Due.STATE, () -> x.repair(7));
        x.pass(50);
        due.tells(true, () -> x.isSound(3));
        due.tells(true, () -> x.isSound(4));
        due.tells(false, () -> x.isSound(7));
    }

    // "50 seconds later the house is sound"
    static void promise12After49And50Seconds(Due due) {
        BellStreet x = new BellStreet();
        x.pass(1);
        x.fault(5);
        due.is(51, () -> x.repair(5));
        due.tells(false, () -> x.isSound(5));
        x.pass(49);
        due.tells(false, () -> x.isSound(5));
        x.pass(1);
        due.tells(true, () -> x.isSound(5));
    }

    // The time counts from the call on, not from the fault on.
    static void promise12SentLater(Due due) {
        BellStreet x = new BellStreet();
        x.fault(0);
        x.pass(100);
        due.tells(false, () -> x.isSound(0));
        due.is(150, () -> x.repair(0));
        x.pass(2000);
        due.tells(true, () -> x.isSound(0));
    }

    static void promise12OverTheEndOfTheDay(Due due) {
        BellStreet x = new BellStreet();
        x.pass(975);
        x.fault(0);
        due.is(1025, () -> x.repair(0));
        x.pass(49);
        due.tells(false, () -> x.isSound(0));
        x.pass(1);
        due.tells(true, () -> x.isSound(0));
    }

    // A house that was broken by its load is repaired too.
    static void promise12BrokenByItsLoad(Due due) {
        BellStreet x = withBells(0, 1);
        x.lay(0, 0, 0, 5);
        x.lay(0, 1, 0, 6);
        x.press(0, 0);
        x.press(0, 1);
        due.is(50, () -> x.repair(0));
        x.pass(50);
        due.is(BellStreet.RINGS, () -> x.press(0, 1));
    }

    static void promise12WhichExceptionFirst(Due due) {
        BellStreet x = new BellStreet();
        x.fault(0);
        x.repair(0);
        due.fails(Due.INDEX, () -> x.repair(-1));
        due.fails(Due.INDEX, () -> x.repair(8));
    }

    // "seconds: 1 to 2000" / "Throws IllegalArgumentException if seconds is out of range"
    static void promise13SecondsOutOfRange(Due due) {
        BellStreet x = new BellStreet();
        for (int seconds : new int[] {0, -1, 2001, MIN, MAX}) {
            due.fails(Due.ARGUMENT, () -> x.pass(seconds));
        }
        due.is(0, () -> x.time());
    }

    static void promise13Seconds1And2000(Due due) {
        BellStreet x = new BellStreet();
        due.is(1, () -> x.pass(1));
        due.is(2001, () -> x.pass(2000));
        due.is(2, () -> x.points(0));
    }

    // "Throws IllegalStateException if the time would be above 1000000": 1000000 itself is not
    static void promise13UpToTheEndOfTime(Due due) {
        BellStreet x = new BellStreet();
        for (int calls = 0; calls < 499; calls++) {
            x.pass(2000);
        }
        due.is(998001, () -> x.pass(1));
        due.fails(Due.STATE, () -> x.pass(2000));
        due.is(998001, () -> x.time());
        due.is(1000000, () -> x.pass(1999));
        due.fails(Due.STATE, () -> x.pass(1));
        due.is(1000000, () -> x.time());
        due.is(1000, () -> x.points(0));
    }

    static void promise13WhichExceptionFirst(Due due) {
        BellStreet x = new BellStreet();
        for (int calls = 0; calls < 500; calls++) {
            x.pass(2000);
        }
        due.fails(Due.ARGUMENT, () -> x.pass(2001));
        due.fails(Due.ARGUMENT, () -> x.pass(MAX));
        due.fails(Due.ARGUMENT, () -> x.pass(0));
        due.fails(Due.STATE, () -> x.pass(1));
        due.fails(Due.STATE, () -> x.pass(2000));
    }

    // "A second passes so": a bell stops, a crew is done and a day is over, all with the same second
    static void promise13AllWithTheSameSecond(Due due) {
        BellStreet x = withBells(0, 1);
        x.fault(7);
        x.pass(950);
        x.repair(7);
        x.pass(48);
        x.setQuiet(0, 999, 0);
        x.press(0, 0);
        x.pass(1);
        due.is(1, () -> x.ringing(0));
        due.tells(false, () -> x.isSound(7));
        due.is(0, () -> x.points(1));
        x.pass(1);
        due.is(0, () -> x.ringing(0));
        due.tells(true, () -> x.isSound(7));
        due.is(0, () -> x.points(0));
        due.is(1, () -> x.points(1));
        due.is(-2, () -> x.points(7));
        due.is(1, () -> x.quietBroken(0));
    }

    // 2000 seconds in one call are the same as 2000 by themselves, or as those of some calls.
    static void promise13InOneCallOrInMany(Due due) {
        int[][] ways = {{2000}, {1, 1999}, {1999, 1}, {999, 1, 1000}, {1000, 1000}, {1001, 999}, {25, 975, 25, 975}};
        for (int[] way : ways) {
            BellStreet x = withBellsEverywhere(12);
            x.pass(990);
            x.setQuiet(0, 995, 5);
            x.press(0, 0);
            x.fault(1);
            x.repair(1);
            for (int seconds : way) {
                x.pass(seconds);
            }
            due.is(2990, () -> x.time());
            due.is(24, () -> x.secondsRung(0));
            due.is(10, () -> x.quietBroken(0));
            due.is(0, () -> x.points(0));
            due.is(-1, () -> x.points(1));
            due.is(2, () -> x.points(2));
            due.tells(true, () -> x.isSound(1));
        }
    }

    // "Time is in seconds, from 0 on"
    static void promise14At0AndAfterEachPass(Due due) {
        BellStreet x = new BellStreet();
        due.is(0, () -> x.time());
        x.pass(1);
        due.is(1, () -> x.time());
        x.pass(2000);
        due.is(2001, () -> x.time());
    }

    static void promise14AtTheEndOfTime(Due due) {
        BellStreet x = new BellStreet();
        for (int calls = 0; calls < 500; calls++) {
            x.pass(2000);
        }
        due.is(1000000, () -> x.time());
    }

    // Nothing but pass lets the time grow, and no pass that is refused.
    static void promise14NothingElseTakesTime(Due due) {
        BellStreet x = withBells(0, 1);
        x.license(1, 0, 1);
        x.setQuiet(1, 0, 1);
        x.press(0, 0);
        x.fault(1);
        x.repair(1);
        x.lay(0, 0, 0, 1);
        due.fails(Due.ARGUMENT, () -> x.pass(0));
        due.fails(Due.ARGUMENT, () -> x.pass(2001));
        due.is(0, () -> x.time());
    }
}
