/** Promises 8 to 14: what is done at the houses, and how the time passes. */
public final class HouseTest {
    private static final Due due = new Due();

    public static void main(String[] args) {
        setQuietTellsWhetherItIsQuiet();
        setQuietOverTheEndOfTheDay();
        setQuietLooksAtItsArguments();
        layTellsWhatWasThere();
        layStopsTheBell();
        layLooksAtItsArguments();
        pressRingsForAsLongAsTheMelodyLasts();
        pressTakesOneStepAfterTheOther();
        pressNeedsRights();
        pressBreaksAboveTen();
        pressLooksAtItsArguments();
        faultRingsTheStreet();
        faultOverridesHoursRightsAndLoads();
        faultEndsAtAHundred();
        faultLooksAtItsArguments();
        repairTakesFiftySeconds();
        repairLooksAtItsArguments();
        passTellsTheTime();
        passLooksAtItsArguments();
        passEndsAtAMillion();
        due.end();
    }

    private static BellStreet withOwnMelody(int house, int tones) {
        BellStreet x = new BellStreet();
        x.addMelody(house, tones, 0);
        x.lay(house, 0, 0, 1);
        return x;
    }

    private static void setQuietTellsWhetherItIsQuiet() {
        BellStreet x = new BellStreet();
        due.tells("setQuiet(0, 0, 1)", true, () -> x.setQuiet(0, 0, 1));
        due.tells("setQuiet(0, 1, 2)", false, () -> x.setQuiet(0, 1, 2));
        due.tells("setQuiet(0, 0, 0)", false, () -> x.setQuiet(0, 0, 0));
        due.tells("setQuiet(0, 999, 999)", false, () -> x.setQuiet(0, 999, 999));
        due.tells("setQuiet(0, 0, 999)", true, () -> x.setQuiet(0, 0, 999));
        x.pass(1000);
        x.pass(500);
        due.tells("setQuiet(7, 500, 501) at 1500", true, () -> x.setQuiet(7, 500, 501));
        due.tells("setQuiet(7, 499, 500) at 1500", false, () -> x.setQuiet(7, 499, 500));
        due.tells("setQuiet(7, 501, 600) at 1500", false, () -> x.setQuiet(7, 501, 600));
        due.tells("setQuiet(7, 500, 500) at 1500", false, () -> x.setQuiet(7, 500, 500));
        due.tells("setQuiet(7, 0, 999) at 1500", true, () -> x.setQuiet(7, 0, 999));
    }

    private static void setQuietOverTheEndOfTheDay() {
        BellStreet x = new BellStreet();
        due.tells("setQuiet(0, 999, 0) at 0", false, () -> x.setQuiet(0, 999, 0));
        due.tells("setQuiet(0, 999, 1) at 0", true, () -> x.setQuiet(0, 999, 1));
        x.pass(1);
        due.tells("setQuiet(0, 999, 1) at 1", false, () -> x.setQuiet(0, 999, 1));
        due.tells("setQuiet(0, 2, 1) at 1", false, () -> x.setQuiet(0, 2, 1));
        due.tells("setQuiet(0, 3, 2) at 1", true, () -> x.setQuiet(0, 3, 2));
        due.tells("setQuiet(0, 1, 0) at 1", true, () -> x.setQuiet(0, 1, 0));
        x.pass(998);
        due.tells("setQuiet(0, 999, 0) at 999", true, () -> x.setQuiet(0, 999, 0));
        due.tells("setQuiet(0, 998, 999) at 999", false, () -> x.setQuiet(0, 998, 999));
    }

    private static void setQuietLooksAtItsArguments() {
        BellStreet x = withOwnMelody(0, 1);
        x.setQuiet(0, 0, 1);
        due.fails("setQuiet(-1, 0, 0)", Due.INDEX, () -> x.setQuiet(-1, 0, 0));
        due.fails("setQuiet(8, 0, 0)", Due.INDEX, () -> x.setQuiet(8, 0, 0));
        due.fails("setQuiet(8, -1, 1000)", Due.INDEX, () -> x.setQuiet(8, -1, 1000));
        due.fails("setQuiet(0, -1, 0)", Due.ARGUMENT, () -> x.setQuiet(0, -1, 0));
        due.fails("setQuiet(0, 1000, 0)", Due.ARGUMENT, () -> x.setQuiet(0, 1000, 0));
        due.fails("setQuiet(0, 5, -1)", Due.ARGUMENT, () -> x.setQuiet(0, 5, -1));
        due.fails("setQuiet(0, 5, 1000)", Due.ARGUMENT, () -> x.setQuiet(0, 5, 1000));
        due.is("it is still quiet", BellStreet.HUSHED, () -> x.press(0, 0));
    }

    private static void layTellsWhatWasThere() {
        BellStreet x = new BellStreet();
        x.addMelody(0, 1, 0);
        x.addMelody(1, 1, 0);
        due.is("lay the first melody", BellStreet.NONE, () -> x.lay(0, 2, 1, 9));
        due.is("lay another one", 1, () -> x.lay(0, 2, 0, 1));
        due.is("lay the same", 0, () -> x.lay(0, 2, 0, 1));
        due.is("lay none", 0, () -> x.lay(0, 2, BellStreet.NONE, 1));
        due.is("lay none again", BellStreet.NONE, () -> x.lay(0, 2, BellStreet.NONE, 1));
        due.is("lay at another bell", BellStreet.NONE, () -> x.lay(0, 1, 0, 1));
        due.is("lay at another house", BellStreet.NONE, () -> x.lay(7, 2, 0, 1));
        x.fault(4);
        due.is("lay at a broken house", BellStreet.NONE, () -> x.lay(4, 0, 1, 1));
        due.is("lay at a broken house again", 1, () -> x.lay(4, 0, 0, 1));
    }

    private static void layStopsTheBell() {
        BellStreet x = withOwnMelody(0, 3);
        x.lay(0, 1, 0, 1);
        x.press(0, 0);
        x.press(0, 1);
        due.is("ringing before lay", 3, () -> x.ringing(0));
        due.is("lay the same melody", 0, () -> x.lay(0, 0, 0, 1));
        due.is("ringing after lay", 2, () -> x.ringing(0));
        due.is("press after lay", BellStreet.RINGS, () -> x.press(0, 0));
        x.pass(4);
        x.lay(0, 0, BellStreet.NONE, 1);
        x.lay(0, 1, 0, 1);
        due.is("ringing after both are laid", 0, () -> x.ringing(0));
        x.pass(4);
        due.is("secondsRung after both are laid", 4, () -> x.secondsRung(0));
    }

    private static void layLooksAtItsArguments() {
        BellStreet x = withOwnMelody(0, 3);
        x.lay(0, 1, 0, 9);
        x.press(0, 0);
        due.fails("lay(-1, 0, 0, 1)", Due.INDEX, () -> x.lay(-1, 0, 0, 1));
        due.fails("lay(8, 0, 0, 1)", Due.INDEX, () -> x.lay(8, 0, 0, 1));
        due.fails("lay(0, -1, 0, 1)", Due.INDEX, () -> x.lay(0, -1, 0, 1));
        due.fails("lay(0, 3, 0, 1)", Due.INDEX, () -> x.lay(0, 3, 0, 1));
        due.fails("lay(0, 0, 1, 1)", Due.INDEX, () -> x.lay(0, 0, 1, 1));
        due.fails("lay(0, 0, -2, 1)", Due.INDEX, () -> x.lay(0, 0, -2, 1));
        due.fails("lay(0, 0, 12, 1)", Due.INDEX, () -> x.lay(0, 0, 12, 1));
        due.fails("lay(0, 0, 1, 0)", Due.INDEX, () -> x.lay(0, 0, 1, 0));
        due.fails("lay(8, 3, 0, 0)", Due.INDEX, () -> x.lay(8, 3, 0, 0));
        due.fails("lay(0, 3, -1, 10)", Due.INDEX, () -> x.lay(0, 3, -1, 10));
        due.fails("lay(0, 0, -1, 0)", Due.ARGUMENT, () -> x.lay(0, 0, -1, 0));
        due.fails("lay(0, 0, 0, 10)", Due.ARGUMENT, () -> x.lay(0, 0, 0, 10));
        due.is("ringing after what threw", 1, () -> x.ringing(0));
        due.is("the loads after what threw", BellStreet.RINGS, () -> x.press(0, 1));
        due.is("the melody after what threw", 0, () -> x.lay(0, 0, 0, 1));
    }

    private static void pressRingsForAsLongAsTheMelodyLasts() {
        for (int tones = 1; tones <= 12; tones++) {
            BellStreet x = withOwnMelody(5, tones);
            int lasts = 2 * tones;
            due.is("press", BellStreet.RINGS, () -> x.press(5, 0));
            x.pass(lasts - 1);
            due.is("ringing before the end of " + tones + " tones", 1, () -> x.ringing(5));
            due.is("press before the end of " + tones + " tones", BellStreet.NOTHING, () -> x.press(5, 0));
            x.pass(1);
            due.is("ringing at the end of " + tones + " tones", 0, () -> x.ringing(5));
            due.is("press at the end of " + tones + " tones", BellStreet.RINGS, () -> x.press(5, 0));
            x.pass(1000);
            due.is("secondsRung by twice " + tones + " tones", 2 * lasts, () -> x.secondsRung(5));
        }
    }

    private static void pressTakesOneStepAfterTheOther() {
        BellStreet x = new BellStreet();
        x.addMelody(0, 3, 0);
        x.addMelody(1, 3, 0);
        x.lay(0, 0, 0, 6);
        x.lay(0, 1, 1, 6);
        due.is("press of the own melody", BellStreet.RINGS, () -> x.press(0, 0));
        x.setQuiet(0, 0, 10);
        due.is("it rings already: nothing, though it is quiet", BellStreet.NOTHING, () -> x.press(0, 0));
        due.is("hushed then", 0, () -> x.hushed(0));
        due.is("it is quiet: hushed, though there are no rights", BellStreet.HUSHED, () -> x.press(0, 1));
        due.is("hushed then", 1, () -> x.hushed(0));
        x.setQuiet(0, 0, 0);
        due.is("no rights: nothing, though the load is too high", BellStreet.NOTHING, () -> x.press(0, 1));
        due.tells("isSound then", true, () -> x.isSound(0));
        x.license(0, 1, 1);
        due.is("with rights the load breaks the house", BellStreet.BROKEN, () -> x.press(0, 1));
        due.is("no ring was taken for that", 1, () -> x.ringsLeft(0, 1));
        x.setQuiet(0, 0, 10);
        due.is("it is broken: nothing, though it is quiet", BellStreet.NOTHING, () -> x.press(0, 1));
        due.is("hushed then", 1, () -> x.hushed(0));
    }

    private static void pressNeedsRights() {
        BellStreet x = new BellStreet();
        x.addMelody(3, 1, 0);
        x.addMelody(3, 1, 0);
        x.lay(4, 0, 0, 1);
        x.lay(4, 1, 0, 1);
        x.lay(4, 2, 1, 1);
        due.is("press without rights", BellStreet.NOTHING, () -> x.press(4, 0));
        due.is("ringing without rights", 0, () -> x.ringing(4));
        x.license(4, 0, 2);
        due.is("press with rights", BellStreet.RINGS, () -> x.press(4, 0));
        due.is("ringsLeft then", 1, () -> x.ringsLeft(4, 0));
        due.is("press while it rings", BellStreet.NOTHING, () -> x.press(4, 0));
        due.is("ringsLeft then", 1, () -> x.ringsLeft(4, 0));
        due.is("press of another bell with it", BellStreet.RINGS, () -> x.press(4, 1));
        due.is("ringsLeft then", 0, () -> x.ringsLeft(4, 0));
        due.is("press without rights to the other melody", BellStreet.NOTHING, () -> x.press(4, 2));
        x.lay(4, 0, 0, 1);
        due.is("press without rights left", BellStreet.NOTHING, () -> x.press(4, 0));
    }

    private static void pressBreaksAboveTen() {
        BellStreet x = new BellStreet();
        x.addMelody(6, 3, 0);
        x.lay(6, 0, 0, 1);
        x.lay(6, 1, 0, 9);
        x.lay(6, 2, 0, 1);
        x.press(6, 1);
        due.is("press to a load of 10", BellStreet.RINGS, () -> x.press(6, 0));
        x.pass(2);
        due.is("press to a load of 11", BellStreet.BROKEN, () -> x.press(6, 2));
        due.is("its bells stop", 0, () -> x.ringing(6));
        due.tells("it is broken", false, () -> x.isSound(6));
        due.is("that is no fault", 0, () -> x.faults());
        x.pass(998);
        due.is("secondsRung up to that", 2, () -> x.secondsRung(6));
        due.is("it loses no points", 1, () -> x.points(6));
    }

    private static void pressLooksAtItsArguments() {
        BellStreet x = new BellStreet();
        x.addMelody(0, 1, 0);
        due.fails("press(-1, 0)", Due.INDEX, () -> x.press(-1, 0));
        due.fails("press(8, 0)", Due.INDEX, () -> x.press(8, 0));
        due.fails("press(0, -1)", Due.INDEX, () -> x.press(0, -1));
        due.fails("press(0, 3)", Due.INDEX, () -> x.press(0, 3));
        due.fails("press(MAX, MIN)", Due.INDEX, () -> x.press(Integer.MAX_VALUE, Integer.MIN_VALUE));
        due.fails("press without a melody", Due.STATE, () -> x.press(0, 0));
        x.setQuiet(0, 0, 5);
        due.fails("press without a melody while it is quiet", Due.STATE, () -> x.press(0, 0));
        due.is("hushed then", 0, () -> x.hushed(0));
        x.fault(0);
        due.fails("press without a melody at a broken house", Due.STATE, () -> x.press(0, 0));
        x.lay(7, 2, 0, 1);
        x.lay(7, 2, BellStreet.NONE, 1);
        due.fails("press of what lay took", Due.STATE, () -> x.press(7, 2));
    }

    private static void faultRingsTheStreet() {
        BellStreet x = new BellStreet();
        x.addMelody(0, 2, 0);
        x.addMelody(0, 5, 0);
        for (int house = 0; house < 8; house++) {
            x.lay(house, 0, 0, 1);
            x.lay(house, 2, 1, 1);
        }
        x.press(0, 2);
        x.pass(1);
        due.is("fault(3)", 5, () -> x.fault(3));
        due.is("the house with the fault does not ring", 0, () -> x.ringing(3));
        due.tells("the house with the fault is broken", false, () -> x.isSound(3));
        due.is("a house of the street rings", 5, () -> x.ringing(0));
        due.is("a house of the street rings", 5, () -> x.ringing(1));
        due.is("a house of the street rings", 5, () -> x.ringing(2));
        due.tells("a house of the street is sound", true, () -> x.isSound(2));
        due.is("the other street does not ring", 0, () -> x.ringing(4));
        x.pass(4);
        due.is("the shorter melody is over", 4, () -> x.ringing(0));
        x.pass(5);
        due.is("what rang before ended by its own time", 0, () -> x.ringing(0));
        due.is("what began by the fault rings on", 4, () -> x.ringing(1));
        x.pass(1);
        due.is("and ends", 0, () -> x.ringing(1));
        due.is("fault of a house beside a broken one", 4, () -> x.fault(0));
        due.is("the broken house does not ring", 0, () -> x.ringing(3));
        due.is("fault in the other street", 6, () -> x.fault(4));
        due.is("that does not ring in the first one", 0, () -> x.ringing(3));
        due.is("the last fault", 114, () -> x.faultAt(2));
    }

    private static void faultOverridesHoursRightsAndLoads() {
        BellStreet x = new BellStreet();
        x.addMelody(7, 2, 0);
        x.license(5, 0, 3);
        for (int bell = 0; bell < 3; bell++) {
            x.lay(5, bell, 0, 9);
        }
        x.setQuiet(5, 0, 500);
        due.is("fault(6)", 3, () -> x.fault(6));
        due.is("ringing(5)", 7, () -> x.ringing(5));
        due.tells("isSound(5)", true, () -> x.isSound(5));
        due.is("no ring was taken", 3, () -> x.ringsLeft(5, 0));
        due.is("no press was hushed", 0, () -> x.hushed(5));
        x.setQuiet(5, 0, 0);
        x.lay(5, 1, 0, 1);
        due.is("a press beside these loads", BellStreet.BROKEN, () -> x.press(5, 1));
        due.is("fault(7) beside two broken houses", 0, () -> x.fault(7));
    }

    private static void faultEndsAtAHundred() {
        BellStreet x = new BellStreet();
        for (int day = 0; day < 25; day++) {
            x.fault(0);
            x.fault(4);
            x.repair(0);
            x.repair(4);
            x.pass(50);
            x.fault(1);
            x.fault(5);
            x.repair(1);
            x.repair(5);
            x.pass(950);
        }
        due.is("faults()", 100, () -> x.faults());
        due.fails("fault the 101st", Due.STATE, () -> x.fault(2));
        due.tells("the house stays sound", true, () -> x.isSound(2));
        due.fails("fault the 101st of no house", Due.INDEX, () -> x.fault(8));
        due.is("faults() then", 100, () -> x.faults());
        due.is("the last one", 240505, () -> x.faultAt(99));
        due.fails("there is none behind it", Due.INDEX, () -> x.faultAt(100));
        due.is("points of 25 days with a fault each", -50, () -> x.points(0));
        due.is("points of 25 days without one", 25, () -> x.points(2));
    }

    private static void faultLooksAtItsArguments() {
        BellStreet x = new BellStreet();
        due.fails("fault(-1)", Due.INDEX, () -> x.fault(-1));
        due.fails("fault(8)", Due.INDEX, () -> x.fault(8));
        due.is("fault(0)", 0, () -> x.fault(0));
        due.fails("fault of a broken house", Due.STATE, () -> x.fault(0));
        due.is("faults then", 1, () -> x.faults());
        x.repair(0);
        x.pass(49);
        due.fails("fault of a house that is not yet repaired", Due.STATE, () -> x.fault(0));
        x.pass(1);
        due.is("fault of a house that is repaired", 0, () -> x.fault(0));
        due.is("faultAt(1)", 500, () -> x.faultAt(1));
    }

    private static void repairTakesFiftySeconds() {
        BellStreet x = new BellStreet();
        x.pass(7);
        x.fault(0);
        x.fault(1);
        x.fault(4);
        due.is("repair(0)", 57, () -> x.repair(0));
        due.fails("repair of the same house", Due.STATE, () -> x.repair(0));
        due.fails("repair of another house of the street", Due.STATE, () -> x.repair(1));
        due.fails("repair of a sound house of the street", Due.STATE, () -> x.repair(2));
        x.pass(1);
        due.is("repair in the other street", 58, () -> x.repair(4));
        x.pass(48);
        due.tells("isSound(0) before", false, () -> x.isSound(0));
        x.pass(1);
        due.tells("isSound(0) then", true, () -> x.isSound(0));
        due.tells("isSound(4) before", false, () -> x.isSound(4));
        due.tells("isSound(1) without a crew", false, () -> x.isSound(1));
        due.is("repair of the next one", 107, () -> x.repair(1));
        x.pass(2000);
        due.tells("isSound(1) then", true, () -> x.isSound(1));
        due.tells("isSound(4) then", true, () -> x.isSound(4));
        due.fails("repair of a repaired house", Due.STATE, () -> x.repair(1));
    }

    private static void repairLooksAtItsArguments() {
        BellStreet x = new BellStreet();
        due.fails("repair(-1)", Due.INDEX, () -> x.repair(-1));
        due.fails("repair(8)", Due.INDEX, () -> x.repair(8));
        due.fails("repair of a sound house", Due.STATE, () -> x.repair(0));
        x.fault(7);
        due.is("repair of a broken house", 50, () -> x.repair(7));
        x.fault(3);
        due.is("the other crew did not go", 50, () -> x.repair(3));
    }

    private static void passTellsTheTime() {
        BellStreet x = new BellStreet();
        due.is("pass(1)", 1, () -> x.pass(1));
        due.is("pass(2000)", 2001, () -> x.pass(2000));
        due.is("pass(999)", 3000, () -> x.pass(999));
        due.is("time()", 3000, () -> x.time());
        for (int house = 0; house < 8; house++) {
            int at = house;
            due.is("points of 3 days of the house " + house, 3, () -> x.points(at));
        }
    }

    private static void passLooksAtItsArguments() {
        BellStreet x = new BellStreet();
        due.fails("pass(0)", Due.ARGUMENT, () -> x.pass(0));
        due.fails("pass(-1)", Due.ARGUMENT, () -> x.pass(-1));
        due.fails("pass(2001)", Due.ARGUMENT, () -> x.pass(2001));
        due.fails("pass(MAX)", Due.ARGUMENT, () -> x.pass(Integer.MAX_VALUE));
        due.is("time() after what threw", 0, () -> x.time());
    }

    private static void passEndsAtAMillion() {
        BellStreet x = new BellStreet();
        for (int calls = 0; calls < 499; calls++) {
            x.pass(2000);
        }
        due.is("pass up to 999999", 999999, () -> x.pass(1999));
        due.fails("pass above the end", Due.STATE, () -> x.pass(2));
        due.fails("pass(2001) near the end", Due.ARGUMENT, () -> x.pass(2001));
        due.is("time() after what threw", 999999, () -> x.time());
        due.is("points of 999 days", 999, () -> x.points(0));
        due.is("pass to the end", 1000000, () -> x.pass(1));
        due.is("points of 1000 days", 1000, () -> x.points(0));
        due.fails("pass at the end", Due.STATE, () -> x.pass(1));
        due.is("fault at the end", 0, () -> x.fault(7));
        due.is("faultAt(0) at the end", 10000007, () -> x.faultAt(0));
        due.is("repair at the end", 1000050, () -> x.repair(7));
    }
}
