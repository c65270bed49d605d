/** Promises 1 and 15 to 23: a new object, and what is told of the houses and the faults. */
public final class ViewTest {
    private static final Due due = new Due();

    public static void main(String[] args) {
        aNewObject();
        noSuchHouse();
        ringingIsASet();
        ringsLeftAndOwners();
        pointsAreGivenWhenTheDayIsOver();
        pointsOfQuietHoursAsTheyWere();
        secondsRungCountsHouses();
        quietBrokenCountsQuietSeconds();
        quietBrokenOverTheEndOfTheDay();
        hushedCountsPresses();
        faultsAreTold();
        objectsAreApart();
        due.end();
    }

    private static void aNewObject() {
        BellStreet x = new BellStreet();
        due.is("time()", 0, () -> x.time());
        due.is("faults()", 0, () -> x.faults());
        due.fails("faultAt(0)", Due.INDEX, () -> x.faultAt(0));
        due.fails("turned(0)", Due.INDEX, () -> x.turned(0));
        for (int house = 0; house < 8; house++) {
            int at = house;
            due.tells("isSound(" + house + ")", true, () -> x.isSound(at));
            due.is("ringing(" + house + ")", 0, () -> x.ringing(at));
            due.is("points(" + house + ")", 0, () -> x.points(at));
            due.is("secondsRung(" + house + ")", 0, () -> x.secondsRung(at));
            due.is("quietBroken(" + house + ")", 0, () -> x.quietBroken(at));
            due.is("hushed(" + house + ")", 0, () -> x.hushed(at));
            due.fails("ringsLeft(" + house + ", 0)", Due.INDEX, () -> x.ringsLeft(at, 0));
            for (int bell = 0; bell < 3; bell++) {
                int which = bell;
                due.fails("press(" + house + ", " + bell + ")", Due.STATE, () -> x.press(at, which));
            }
        }
    }

    private static void noSuchHouse() {
        BellStreet x = new BellStreet();
        x.addMelody(0, 1, 0);
        int[] wrong = {-1, 8, Integer.MIN_VALUE, Integer.MAX_VALUE};
        for (int house : wrong) {
            due.fails("ringing(" + house + ")", Due.INDEX, () -> x.ringing(house));
            due.fails("isSound(" + house + ")", Due.INDEX, () -> x.isSound(house));
            due.fails("ringsLeft(" + house + ", 0)", Due.INDEX, () -> x.ringsLeft(house, 0));
            due.fails("points(" + house + ")", Due.INDEX, () -> x.points(house));
            due.fails("secondsRung(" + house + ")", Due.INDEX, () -> x.secondsRung(house));
            due.fails("quietBroken(" + house + ")", Due.INDEX, () -> x.quietBroken(house));
            due.fails("hushed(" + house + ")", Due.INDEX, () -> x.hushed(house));
        }
    }

    private static void ringingIsASet() {
        BellStreet x = new BellStreet();
        x.addMelody(2, 1, 0);
        x.addMelody(2, 2, 0);
        x.addMelody(2, 3, 0);
        for (int bell = 0; bell < 3; bell++) {
            x.lay(2, bell, bell, 1);
            x.press(2, bell);
        }
        due.is("ringing of all", 7, () -> x.ringing(2));
        due.is("ringing of another house", 0, () -> x.ringing(1));
        x.pass(2);
        due.is("ringing after 2 seconds", 6, () -> x.ringing(2));
        x.pass(2);
        due.is("ringing after 4 seconds", 4, () -> x.ringing(2));
        x.pass(2);
        due.is("ringing after 6 seconds", 0, () -> x.ringing(2));
    }

    private static void ringsLeftAndOwners() {
        BellStreet x = new BellStreet();
        x.addMelody(2, 1, 0);
        x.license(3, 0, 7);
        due.is("ringsLeft of the owner", BellStreet.NONE, () -> x.ringsLeft(2, 0));
        due.is("ringsLeft of a licensed house", 7, () -> x.ringsLeft(3, 0));
        due.is("ringsLeft of another house", 0, () -> x.ringsLeft(4, 0));
        due.fails("ringsLeft(2, 1)", Due.INDEX, () -> x.ringsLeft(2, 1));
        due.fails("ringsLeft(2, -1)", Due.INDEX, () -> x.ringsLeft(2, -1));
        due.fails("ringsLeft(2, 12)", Due.INDEX, () -> x.ringsLeft(2, 12));
    }

    private static void pointsAreGivenWhenTheDayIsOver() {
        BellStreet x = new BellStreet();
        x.addMelody(0, 1, 0);
        x.lay(0, 0, 0, 1);
        x.press(0, 0);
        x.pass(999);
        due.is("points before the day is over", 0, () -> x.points(0));
        x.fault(1);
        x.repair(1);
        due.is("points lost are lost when the day is over", 0, () -> x.points(1));
        x.pass(1);
        due.is("points of a house that rang while it was not quiet", 1, () -> x.points(0));
        due.is("points of a house with a fault", -2, () -> x.points(1));
        x.pass(49);
        x.fault(1);
        x.repair(1);
        x.pass(50);
        x.fault(1);
        x.pass(901);
        due.is("points after two faults in a day", -7, () -> x.points(1));
        x.pass(1000);
        due.is("points of a broken house without a fault in the day", -6, () -> x.points(1));
        due.is("points of 3 days", 3, () -> x.points(7));
    }

    private static void pointsOfQuietHoursAsTheyWere() {
        BellStreet x = new BellStreet();
        x.addMelody(0, 2, 0);
        x.lay(0, 0, 0, 1);
        x.press(0, 0);
        x.setQuiet(0, 0, 1);
        x.setQuiet(0, 0, 0);
        x.pass(2);
        x.setQuiet(0, 0, 2);
        x.pass(998);
        due.is("points: quiet hours of a second count as they were in it", 1, () -> x.points(0));
        x.setQuiet(0, 1, 2);
        x.press(0, 0);
        x.pass(2);
        x.setQuiet(0, 0, 0);
        x.pass(998);
        due.is("points: one quiet second broken is enough", 1, () -> x.points(0));
        x.pass(1000);
        due.is("points: the next day counts anew", 2, () -> x.points(0));
        x.setQuiet(0, 4, 999);
        x.press(0, 0);
        x.pass(1000);
        due.is("points: it ended just before the quiet hours", 3, () -> x.points(0));
        x.setQuiet(0, 3, 999);
        x.press(0, 0);
        x.pass(1000);
        due.is("points: it ended just within the quiet hours", 3, () -> x.points(0));
    }

    private static void secondsRungCountsHouses() {
        BellStreet x = new BellStreet();
        x.addMelody(0, 2, 0);
        x.lay(0, 0, 0, 1);
        x.lay(0, 1, 0, 1);
        x.press(0, 0);
        due.is("secondsRung before a second has passed", 0, () -> x.secondsRung(0));
        x.pass(1);
        x.press(0, 1);
        due.is("secondsRung after one", 1, () -> x.secondsRung(0));
        x.pass(100);
        due.is("secondsRung of two bells, each second once", 5, () -> x.secondsRung(0));
        due.is("secondsRung of another house", 0, () -> x.secondsRung(1));
        x.press(0, 0);
        x.pass(1);
        x.fault(0);
        x.pass(100);
        due.is("secondsRung up to a fault", 6, () -> x.secondsRung(0));
    }

    private static void quietBrokenCountsQuietSeconds() {
        BellStreet x = new BellStreet();
        x.addMelody(0, 5, 0);
        x.lay(0, 0, 0, 1);
        x.lay(0, 1, 0, 1);
        x.press(0, 0);
        x.press(0, 1);
        x.setQuiet(0, 3, 7);
        x.pass(3);
        due.is("quietBroken before the quiet hours", 0, () -> x.quietBroken(0));
        x.pass(1);
        due.is("quietBroken after one second of them", 1, () -> x.quietBroken(0));
        x.pass(1);
        x.setQuiet(0, 0, 0);
        x.pass(1);
        due.is("quietBroken with the hours changed", 2, () -> x.quietBroken(0));
        x.setQuiet(0, 3, 7);
        x.pass(994);
        due.is("quietBroken after that", 3, () -> x.quietBroken(0));
        due.is("secondsRung after that", 10, () -> x.secondsRung(0));
        x.pass(1000);
        due.is("quietBroken in quiet hours without a ring", 3, () -> x.quietBroken(0));
    }

    private static void quietBrokenOverTheEndOfTheDay() {
        BellStreet x = new BellStreet();
        x.addMelody(0, 12, 0);
        x.lay(0, 0, 0, 1);
        x.setQuiet(0, 995, 4);
        x.pass(990);
        x.press(0, 0);
        x.pass(1000);
        due.is("secondsRung over the end of the day", 24, () -> x.secondsRung(0));
        due.is("quietBroken over the end of the day", 9, () -> x.quietBroken(0));
        x.pass(10);
        due.is("points of two days with quiet broken", 0, () -> x.points(0));
        x.setQuiet(0, 30, 2);
        x.pass(2);
        x.press(0, 0);
        x.pass(998);
        due.is("quietBroken between the quiet hours", 9, () -> x.quietBroken(0));
        due.is("points of a day with quiet kept", 1, () -> x.points(0));
    }

    private static void hushedCountsPresses() {
        BellStreet x = new BellStreet();
        x.addMelody(0, 1, 0);
        x.lay(0, 0, 0, 1);
        x.lay(1, 0, 0, 1);
        x.setQuiet(0, 0, 3);
        x.setQuiet(1, 0, 3);
        due.is("press in quiet hours", BellStreet.HUSHED, () -> x.press(0, 0));
        due.is("press in quiet hours again", BellStreet.HUSHED, () -> x.press(0, 0));
        due.is("press without rights in quiet hours", BellStreet.HUSHED, () -> x.press(1, 0));
        due.is("hushed(0)", 2, () -> x.hushed(0));
        due.is("hushed(1)", 1, () -> x.hushed(1));
        due.is("hushed(2)", 0, () -> x.hushed(2));
        due.is("what is hushed does not ring", 0, () -> x.ringing(0));
        x.pass(3);
        due.is("press behind quiet hours", BellStreet.RINGS, () -> x.press(0, 0));
        due.is("hushed(0) then", 2, () -> x.hushed(0));
    }

    private static void faultsAreTold() {
        BellStreet x = new BellStreet();
        x.fault(7);
        x.pass(1234);
        x.fault(0);
        x.fault(3);
        due.is("faults()", 3, () -> x.faults());
        due.is("faultAt(0)", 7, () -> x.faultAt(0));
        due.is("faultAt(1)", 12340, () -> x.faultAt(1));
        due.is("faultAt(2)", 12343, () -> x.faultAt(2));
        due.fails("faultAt(3)", Due.INDEX, () -> x.faultAt(3));
        due.fails("faultAt(-1)", Due.INDEX, () -> x.faultAt(-1));
        due.fails("faultAt(MAX)", Due.INDEX, () -> x.faultAt(Integer.MAX_VALUE));
    }

    private static void objectsAreApart() {
        BellStreet one = new BellStreet();
        BellStreet other = new BellStreet();
        one.addMelody(0, 1, 0);
        one.fault(0);
        one.pass(5);
        due.is("faults() of another object", 0, () -> other.faults());
        due.is("time() of another object", 0, () -> other.time());
        due.fails("melodies of another object", Due.INDEX, () -> other.turned(0));
        due.tells("isSound(0) of another object", true, () -> other.isSound(0));
    }
}
