/** Promises 15 to 23: what is told. Above a test stands the sentence of the document that it is for. */
final class ViewEdges {
    private static final int MIN = Integer.MIN_VALUE, MAX = Integer.MAX_VALUE;
    private static final int[] NO_HOUSE = {-1, 8, MIN, MAX};

    /** A house with a melody of its own of that many tones, the number 0, at all its bells, each of the load 1. */
    private static BellStreet withBells(int house, int tones) {
        BellStreet x = new BellStreet();
        x.addMelody(house, tones, 0);
        for (int bell = 0; bell < 3; bell++) {
            x.lay(house, bell, 0, 1);
        }
        return x;
    }

    static void promise15NoSuchHouse(Due due) {
        BellStreet x = new BellStreet();
        for (int house : NO_HOUSE) {
            due.fails(Due.INDEX, () -> x.ringing(house));
        }
    }

    // "Returns the set, bit b for the bell b.": from none to all
    static void promise15EachSetOfBells(Due due) {
        for (int set = 0; set < 8; set++) {
            BellStreet x = withBells(7, 1);
            int s = set;
            for (int bell = 0; bell < 3; bell++) {
                if ((set >> bell & 1) != 0) {
                    x.press(7, bell);
                }
            }
            due.is(s, () -> x.ringing(7));
            due.is(0, () -> x.ringing(0));
            x.pass(2);
            due.is(0, () -> x.ringing(7));
        }
    }

    static void promise15BellsThatEndOneByOne(Due due) {
        BellStreet x = withBells(0, 1);
        x.addMelody(0, 2, 0);
        x.addMelody(0, 12, 0);
        x.lay(0, 1, 1, 1);
        x.lay(0, 2, 2, 1);
        for (int bell = 0; bell < 3; bell++) {
            x.press(0, bell);
        }
        x.pass(1);
        due.is(7, () -> x.ringing(0));
        x.pass(1);
        due.is(6, () -> x.ringing(0));
        x.pass(2);
        due.is(4, () -> x.ringing(0));
        x.pass(19);
        due.is(4, () -> x.ringing(0));
        x.pass(1);
        due.is(0, () -> x.ringing(0));
    }

    static void promise16NoSuchHouse(Due due) {
        BellStreet x = new BellStreet();
        for (int house : NO_HOUSE) {
            due.fails(Due.INDEX, () -> x.isSound(house));
        }
    }

    // "A house is sound at first, or broken.": each by itself
    static void promise16EachHouse(Due due) {
        for (int house = 0; house < 8; house++) {
            BellStreet x = new BellStreet();
            int broken = house;
            x.fault(house);
            for (int other = 0; other < 8; other++) {
                int h = other;
                due.tells(h != broken, () -> x.isSound(h));
            }
        }
    }

    static void promise16BrokenUntilItIsRepaired(Due due) {
        BellStreet x = new BellStreet();
        x.fault(3);
        x.pass(2000);
        due.tells(false, () -> x.isSound(3));
        x.repair(3);
        due.tells(false, () -> x.isSound(3));
        x.pass(49);
        due.tells(false, () -> x.isSound(3));
        x.pass(1);
        due.tells(true, () -> x.isSound(3));
    }

    static void promise17NoSuchHouse(Due due) {
        BellStreet x = withBells(0, 1);
        for (int house : NO_HOUSE) {
            due.fails(Due.INDEX, () -> x.ringsLeft(house, 0));
        }
    }

    static void promise17NoSuchMelody(Due due) {
        BellStreet x = withBells(0, 1);
        for (int melody : new int[] {-1, 1, 11, 12, MIN, MAX}) {
            due.fails(Due.INDEX, () -> x.ringsLeft(0, melody));
            due.fails(Due.INDEX, () -> x.ringsLeft(1, melody));
        }
    }

    // "NONE if it is the owner"
    static void promise17OfTheOwner(Due due) {
        for (int owner = 0; owner < 8; owner++) {
            BellStreet x = withBells(owner, 1);
            int o = owner;
            for (int house = 0; house < 8; house++) {
                int h = house;
                due.is(h == o ? BellStreet.NONE : 0, () -> x.ringsLeft(h, 0));
            }
        }
    }

    static void promise17From1000To0(Due due) {
        BellStreet x = withBells(0, 1);
        x.lay(1, 0, 0, 1);
        x.license(1, 0, 1000);
        due.is(1000, () -> x.ringsLeft(1, 0));
        x.press(1, 0);
        due.is(999, () -> x.ringsLeft(1, 0));
        x.license(2, 0, 1);
        x.lay(2, 0, 0, 1);
        x.press(2, 0);
        due.is(0, () -> x.ringsLeft(2, 0));
    }

    // The rings are of the house and the melody, not of the bell: another melody at the bell has its own.
    static void promise17OfTheMelodyAtTheBell(Due due) {
        BellStreet x = withBells(0, 1);
        x.addMelody(0, 1, 0);
        x.license(1, 0, 5);
        x.license(1, 1, 7);
        x.lay(1, 0, 0, 1);
        x.lay(1, 0, 1, 1);
        x.press(1, 0);
        due.is(5, () -> x.ringsLeft(1, 0));
        due.is(6, () -> x.ringsLeft(1, 1));
    }

    static void promise18NoSuchHouse(Due due) {
        BellStreet x = new BellStreet();
        for (int house : NO_HOUSE) {
            due.fails(Due.INDEX, () -> x.points(house));
        }
    }

    // "When a day is over, each house gets 1 point": with its last second, not before
    static void promise18TheLastSecondOfTheDay(Due due) {
        BellStreet x = new BellStreet();
        due.is(0, () -> x.points(0));
        x.pass(999);
        due.is(0, () -> x.points(0));
        due.is(0, () -> x.points(7));
        x.pass(1);
        due.is(1, () -> x.points(0));
        due.is(1, () -> x.points(7));
        x.pass(999);
        due.is(1, () -> x.points(0));
        x.pass(1);
        due.is(2, () -> x.points(0));
    }

    static void promise18TwoDaysInOneCall(Due due) {
        BellStreet x = new BellStreet();
        x.pass(2000);
        due.is(2, () -> x.points(0));
        x.pass(1);
        x.pass(1999);
        due.is(4, () -> x.points(0));
    }

    // "if none of its bells rang in a second of that day in which it was quiet there": one second is enough
    static void promise18OneQuietSecondBroken(Due due) {
        BellStreet x = withBells(0, 1);
        x.setQuiet(0, 1, 2);
        x.press(0, 0);
        x.pass(1000);
        due.is(0, () -> x.points(0));
        due.is(1, () -> x.points(1));
    }

    static void promise18TheRingEndsWhereItGetsQuiet(Due due) {
        BellStreet x = withBells(0, 1);
        x.setQuiet(0, 2, 999);
        x.press(0, 0);
        x.pass(1000);
        due.is(1, () -> x.points(0));
    }

    static void promise18TheRingBeginsWhereTheQuietEnds(Due due) {
        BellStreet x = withBells(0, 1);
        x.setQuiet(0, 990, 10);
        x.pass(10);
        due.is(BellStreet.RINGS, () -> x.press(0, 0));
        x.pass(990);
        due.is(1, () -> x.points(0));
    }

    // The last second of a day and the first one of the next are of different days.
    static void promise18TheLastQuietSecondOfADay(Due due) {
        BellStreet x = withBells(0, 1);
        x.setQuiet(0, 999, 0);
        x.pass(998);
        x.press(0, 0);
        x.pass(2);
        due.is(0, () -> x.points(0));
        x.pass(1000);
        due.is(1, () -> x.points(0));
    }

    static void promise18TheFirstQuietSecondOfADay(Due due) {
        BellStreet x = withBells(0, 1);
        x.setQuiet(0, 0, 1);
        x.pass(999);
        x.press(0, 0);
        x.pass(1);
        due.is(1, () -> x.points(0));
        x.pass(1000);
        due.is(1, () -> x.points(0));
        x.pass(1000);
        due.is(2, () -> x.points(0));
    }

    // "by its quiet hours as they were in that second": hours that were set and taken back in it are none
    static void promise18HoursAsTheyWere(Due due) {
        BellStreet x = withBells(0, 1);
        x.press(0, 0);
        x.setQuiet(0, 0, 2);
        x.setQuiet(0, 0, 0);
        x.pass(2);
        x.setQuiet(0, 0, 2);
        x.pass(998);
        due.is(1, () -> x.points(0));
    }

    static void promise18HoursThatWereTakenBackLater(Due due) {
        BellStreet x = withBells(0, 2);
        x.press(0, 0);
        x.setQuiet(0, 1, 2);
        x.pass(2);
        x.setQuiet(0, 0, 0);
        x.pass(998);
        due.is(0, () -> x.points(0));
    }

    // A ring that was stopped before its first quiet second did not break the quiet.
    static void promise18StoppedBeforeItGetsQuiet(Due due) {
        BellStreet x = withBells(0, 2);
        x.setQuiet(0, 1, 999);
        x.press(0, 0);
        x.pass(1);
        x.lay(0, 0, 0, 1);
        x.pass(999);
        due.is(1, () -> x.points(0));
    }

    // A hushed press costs nothing.
    static void promise18AHushedPress(Due due) {
        BellStreet x = withBells(0, 1);
        x.setQuiet(0, 0, 999);
        due.is(BellStreet.HUSHED, () -> x.press(0, 0));
        x.pass(1000);
        due.is(1, () -> x.points(0));
    }

    // "and loses 3 for each fault of it in that day": when the day is over, of that house alone
    static void promise18AFault(Due due) {
        BellStreet x = new BellStreet();
        x.fault(0);
        x.pass(999);
        due.is(0, () -> x.points(0));
        x.pass(1);
        due.is(-2, () -> x.points(0));
        due.is(1, () -> x.points(1));
        x.pass(1000);
        due.is(-1, () -> x.points(0));
    }

    static void promise18TwoFaultsOfADay(Due due) {
        BellStreet x = new BellStreet();
        x.fault(0);
        x.repair(0);
        x.pass(50);
        x.fault(0);
        x.pass(950);
        due.is(-5, () -> x.points(0));
    }

    // A fault at the time 999 is of the day 0, one at 1000 of the day 1.
    static void promise18AFaultAtTheEdgeOfADay(Due due) {
        BellStreet x = new BellStreet();
        x.pass(999);
        x.fault(0);
        x.pass(1);
        x.fault(1);
        due.is(-2, () -> x.points(0));
        due.is(1, () -> x.points(1));
        x.pass(1000);
        due.is(-1, () -> x.points(0));
        due.is(-1, () -> x.points(1));
    }

    // A fault and a broken quiet: no point, and 3 less.
    static void promise18AFaultAndBrokenQuiet(Due due) {
        BellStreet x = withBells(0, 1);
        x.setQuiet(0, 1, 2);
        x.press(0, 0);
        x.pass(2);
        x.fault(0);
        x.pass(998);
        due.is(-3, () -> x.points(0));
    }

    // What a fault lets ring in the quiet hours of another house breaks the quiet there.
    static void promise18RungByTheFaultOfANeighbour(Due due) {
        BellStreet x = withBells(0, 1);
        x.setQuiet(0, 0, 1);
        x.fault(3);
        x.pass(1000);
        due.is(0, () -> x.points(0));
        due.is(1, () -> x.points(1));
        due.is(-2, () -> x.points(3));
    }

    // A refused fault loses no points.
    static void promise18ARefusedFault(Due due) {
        BellStreet x = new BellStreet();
        x.fault(0);
        due.fails(Due.STATE, () -> x.fault(0));
        x.pass(1000);
        due.is(-2, () -> x.points(0));
    }

    static void promise19NoSuchHouse(Due due) {
        BellStreet x = new BellStreet();
        for (int house : NO_HOUSE) {
            due.fails(Due.INDEX, () -> x.secondsRung(house));
        }
    }

    // "so far": before a second has passed, none
    static void promise19BeforeASecondHasPassed(Due due) {
        BellStreet x = withBells(0, 1);
        due.is(0, () -> x.secondsRung(0));
        x.press(0, 0);
        due.is(0, () -> x.secondsRung(0));
        x.pass(1);
        due.is(1, () -> x.secondsRung(0));
    }

    // "in how many seconds some bell of a house rang": each second once
    static void promise19ThreeBellsAtOnce(Due due) {
        BellStreet x = withBells(0, 2);
        x.press(0, 0);
        x.pass(1);
        x.press(0, 1);
        x.pass(1);
        x.press(0, 2);
        x.pass(100);
        due.is(6, () -> x.secondsRung(0));
        due.is(0, () -> x.secondsRung(1));
    }

    static void promise19StoppedInTheSecondOfItsBegin(Due due) {
        BellStreet x = withBells(0, 2);
        x.press(0, 0);
        x.lay(0, 0, 0, 1);
        x.pass(10);
        due.is(0, () -> x.secondsRung(0));
        x.press(0, 0);
        x.fault(0);
        x.pass(10);
        due.is(0, () -> x.secondsRung(0));
    }

    static void promise19OverTheEndOfTheDay(Due due) {
        BellStreet x = withBells(0, 12);
        x.pass(990);
        x.press(0, 0);
        x.pass(10);
        due.is(10, () -> x.secondsRung(0));
        x.pass(14);
        due.is(24, () -> x.secondsRung(0));
        x.pass(1);
        due.is(24, () -> x.secondsRung(0));
    }

    static void promise20NoSuchHouse(Due due) {
        BellStreet x = new BellStreet();
        for (int house : NO_HOUSE) {
            due.fails(Due.INDEX, () -> x.quietBroken(house));
        }
    }

    // "in which it was quiet there": from the first quiet second up to, not including, the end
    static void promise20FromIsWithinAndToIsNot(Due due) {
        BellStreet x = withBells(0, 3);
        x.setQuiet(0, 2, 4);
        x.press(0, 0);
        x.pass(2);
        due.is(0, () -> x.quietBroken(0));
        x.pass(1);
        due.is(1, () -> x.quietBroken(0));
        x.pass(1);
        due.is(2, () -> x.quietBroken(0));
        x.pass(2);
        due.is(2, () -> x.quietBroken(0));
        due.is(6, () -> x.secondsRung(0));
    }

    // "over the end of the day"
    static void promise20OverTheEndOfTheDay(Due due) {
        BellStreet x = withBells(0, 5);
        x.setQuiet(0, 998, 3);
        x.pass(996);
        x.press(0, 0);
        x.pass(2);
        due.is(0, () -> x.quietBroken(0));
        x.pass(2);
        due.is(2, () -> x.quietBroken(0));
        x.pass(3);
        due.is(5, () -> x.quietBroken(0));
        x.pass(3);
        due.is(5, () -> x.quietBroken(0));
        due.is(10, () -> x.secondsRung(0));
    }

    // Both parts of quiet hours over the end of the day, in one stretch of a day without the middle.
    static void promise20BothPartsInOneRing(Due due) {
        BellStreet x = withBells(0, 12);
        x.press(0, 0);
        x.setQuiet(0, 20, 4);
        x.pass(24);
        due.is(8, () -> x.quietBroken(0));
    }

    // "if both are the same, there are none"
    static void promise20FromAndToAreTheSame(Due due) {
        BellStreet x = withBells(0, 2);
        x.setQuiet(0, 1, 1);
        x.press(0, 0);
        x.pass(4);
        due.is(0, () -> x.quietBroken(0));
    }

    static void promise20QuietWithoutARing(Due due) {
        BellStreet x = withBells(0, 1);
        x.setQuiet(0, 0, 999);
        x.press(0, 0);
        x.pass(999);
        due.is(0, () -> x.quietBroken(0));
        x.press(0, 0);
        x.pass(1000);
        due.is(1, () -> x.quietBroken(0));
    }

    static void promise20ThreeBellsAtOnce(Due due) {
        BellStreet x = withBells(0, 1);
        for (int bell = 0; bell < 3; bell++) {
            x.press(0, bell);
        }
        x.setQuiet(0, 0, 999);
        x.pass(10);
        due.is(2, () -> x.quietBroken(0));
        due.is(0, () -> x.quietBroken(1));
    }

    static void promise21NoSuchHouse(Due due) {
        BellStreet x = new BellStreet();
        for (int house : NO_HOUSE) {
            due.fails(Due.INDEX, () -> x.hushed(house));
        }
    }

    // "how many presses at a house were hushed": of all its bells, again and again, of no other house
    static void promise21EachPressCounts(Due due) {
        BellStreet x = withBells(7, 1);
        due.is(0, () -> x.hushed(7));
        x.setQuiet(7, 0, 1);
        for (int presses = 1; presses <= 9; presses++) {
            int p = presses;
            due.is(BellStreet.HUSHED, () -> x.press(7, p % 3));
            due.is(p, () -> x.hushed(7));
        }
        due.is(0, () -> x.hushed(0));
        due.is(0, () -> x.ringing(7));
    }

    // What comes to nothing, rings, breaks or is refused is not hushed.
    static void promise21OtherPresses(Due due) {
        BellStreet x = withBells(0, 1);
        x.lay(0, 0, 0, 5);
        x.lay(0, 1, 0, 6);
        x.lay(0, 2, BellStreet.NONE, 1);
        due.is(BellStreet.RINGS, () -> x.press(0, 0));
        due.is(BellStreet.NOTHING, () -> x.press(0, 0));
        due.fails(Due.STATE, () -> x.press(0, 2));
        due.is(BellStreet.BROKEN, () -> x.press(0, 1));
        x.setQuiet(0, 0, 1);
        due.is(BellStreet.NOTHING, () -> x.press(0, 1));
        due.fails(Due.STATE, () -> x.press(0, 2));
        due.is(0, () -> x.hushed(0));
    }

    static void promise22NoneAtFirst(Due due) {
        BellStreet x = new BellStreet();
        due.is(0, () -> x.faults());
        due.is(0, () -> x.fault(0));
        due.is(1, () -> x.faults());
        due.is(0, () -> x.fault(7));
        due.is(2, () -> x.faults());
    }

    // "how many faults were told": no refused ones
    static void promise22RefusedFaults(Due due) {
        BellStreet x = new BellStreet();
        x.fault(0);
        due.fails(Due.STATE, () -> x.fault(0));
        due.fails(Due.INDEX, () -> x.fault(8));
        due.is(1, () -> x.faults());
    }

    // A repair, or the end of a day, takes no fault away.
    static void promise22FaultsStayTold(Due due) {
        BellStreet x = new BellStreet();
        x.fault(0);
        x.repair(0);
        x.pass(2000);
        due.is(1, () -> x.faults());
        due.is(0, () -> x.faultAt(0));
    }

    // "Throws IndexOutOfBoundsException if there were not so many"
    static void promise23NotSoMany(Due due) {
        BellStreet x = new BellStreet();
        due.fails(Due.INDEX, () -> x.faultAt(0));
        x.fault(0);
        due.is(0, () -> x.faultAt(0));
        due.fails(Due.INDEX, () -> x.faultAt(1));
        due.fails(Due.INDEX, () -> x.faultAt(99));
        due.fails(Due.INDEX, () -> x.faultAt(100));
        due.fails(Due.INDEX, () -> x.faultAt(MAX));
    }

    // "or place is below 0"
    static void promise23PlaceBelow0(Due due) {
        BellStreet x = new BellStreet();
        due.fails(Due.INDEX, () -> x.faultAt(-1));
        x.fault(0);
        due.fails(Due.INDEX, () -> x.faultAt(-1));
        due.fails(Due.INDEX, () -> x.faultAt(MIN));
    }

    // "10 times the time at which it was, and the house, added"
    static void promise23TimesAndHouses(Due due) {
        BellStreet x = new BellStreet();
        x.fault(7);
        x.fault(0);
        x.pass(1);
        x.fault(3);
        x.pass(1999);
        x.fault(4);
        due.is(7, () -> x.faultAt(0));
        due.is(0, () -> x.faultAt(1));
        due.is(13, () -> x.faultAt(2));
        due.is(20004, () -> x.faultAt(3));
    }

    static void promise23AtTheEndOfTime(Due due) {
        BellStreet x = new BellStreet();
        for (int calls = 0; calls < 500; calls++) {
            x.pass(2000);
        }
        due.is(0, () -> x.fault(7));
        due.is(10000007, () -> x.faultAt(0));
    }

    static void promise23AHundred(Due due) {
        BellStreet x = new BellStreet();
        for (int round = 0; round < 50; round++) {
            x.fault(0);
            x.fault(7);
            x.repair(0);
            x.repair(7);
            x.pass(50);
        }
        for (int place = 0; place < 100; place++) {
            int p = place;
            due.is(500 * (p / 2) + 7 * (p % 2), () -> x.faultAt(p));
        }
        due.fails(Due.INDEX, () -> x.faultAt(100));
    }
}
