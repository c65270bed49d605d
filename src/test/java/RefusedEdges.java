import java.util.StringJoiner;
import java.util.function.Consumer;
import java.util.function.Supplier;

/**
 * "A call that throws an exception changes nothing.": two objects are made by the same calls, one of them is
 * then given refused calls too, and whatever is asked and done after that has the same answers at both.
 */
final class RefusedEdges {
    private static final int MIN = Integer.MIN_VALUE, MAX = Integer.MAX_VALUE;

    /** A street in the middle of much: bells ring, crews are under way, it is quiet here and there. */
    private static BellStreet busy() {
        BellStreet x = new BellStreet();
        x.addMelody(0, 12, 0xCBA987654321L);
        x.addMelody(5, 1, 3);
        x.addMelody(2, 6, 0x123456);
        for (int house = 0; house < 8; house++) {
            x.lay(house, 0, 0, 4);
            x.lay(house, 1, house % 3, 6);
        }
        x.license(1, 0, 3);
        x.license(4, 0, 1000);
        x.license(6, 0, 1);
        x.setQuiet(2, 995, 8);
        x.pass(985);
        x.fault(3);
        x.fault(7);
        x.repair(3);
        x.pass(7);
        x.press(4, 0);
        x.press(0, 0);
        return x;
    }

    /** A street with as many melodies and faults as there can be. */
    private static BellStreet full() {
        BellStreet x = new BellStreet();
        for (int melody = 0; melody < 12; melody++) {
            x.addMelody(melody % 8, 12 - melody, 0);
        }
        for (int round = 0; round < 50; round++) {
            x.fault(0);
            x.fault(7);
            x.repair(0);
            x.repair(7);
            x.pass(50);
        }
        x.lay(0, 0, 0, 1);
        x.lay(1, 0, 1, 1);
        return x;
    }

    private static void look(BellStreet x, StringJoiner seen) {
        seen.add(Due.told(x::time)).add(Due.told(x::faults));
        for (int house = 0; house < 8; house++) {
            int h = house;
            seen.add(Due.told(() -> x.ringing(h)));
            seen.add(Due.told(() -> x.isSound(h) ? 1 : 0));
            seen.add(Due.told(() -> x.points(h)));
            seen.add(Due.told(() -> x.secondsRung(h)));
            seen.add(Due.told(() -> x.quietBroken(h)));
            seen.add(Due.told(() -> x.hushed(h)));
        }
    }

    private static void lookAtMelodies(BellStreet x, StringJoiner seen) {
        for (int melody = 0; melody < 4; melody++) {
            int m = melody;
            seen.add(Due.told(() -> x.turned(m)));
            for (int house = 0; house < 8; house++) {
                int h = house;
                seen.add(Due.told(() -> x.ringsLeft(h, m)));
            }
        }
    }

    private static void pressAll(BellStreet x, StringJoiner seen) {
        for (int place = 0; place < 24; place++) {
            int h = place / 3, b = place % 3;
            seen.add(Due.told(() -> x.press(h, b)));
        }
    }

    /** What can't be looked at, such as the loads and the hours, is seen by what comes of more calls: fewer than 240. */
    private static String whatComesOf(BellStreet x) {
        StringJoiner seen = new StringJoiner(" ");
        look(x, seen);
        lookAtMelodies(x, seen);
        seen.add(Due.told(() -> x.addMelody(1, 1, 9)));
        seen.add(Due.told(() -> x.faultAt(0))).add(Due.told(() -> x.faultAt(x.faults() - 1)));
        pressAll(x, seen);
        seen.add(Due.told(() -> x.pass(5)));
        seen.add(Due.told(() -> x.repair(7))).add(Due.told(() -> x.fault(0))).add(Due.told(() -> x.press(2, 0)));
        seen.add(Due.told(() -> x.pass(40)));
        seen.add(Due.told(() -> x.repair(0)));
        pressAll(x, seen);
        look(x, seen);
        for (int place = 0; place < 24; place++) {
            int h = place / 3, b = place % 3;
            seen.add(Due.told(() -> x.lay(h, b, 0, 1)));
        }
        return seen.toString();
    }

    private static void changesNothing(Due due, Supplier<BellStreet> made, Consumer<BellStreet> refused) {
        BellStreet x = made.get();
        BellStreet twin = made.get();
        refused.accept(x);
        due.compare("what comes after refused calls", whatComesOf(twin), whatComesOf(x));
    }

    static void promise2RefusedCallsChangeNothing(Due due) {
        changesNothing(due, RefusedEdges::busy, x -> {
            due.fails(Due.INDEX, () -> x.addMelody(-1, 1, 0));
            due.fails(Due.INDEX, () -> x.addMelody(8, 1, 0));
            due.fails(Due.ARGUMENT, () -> x.addMelody(0, 0, 0));
            due.fails(Due.ARGUMENT, () -> x.addMelody(0, 13, 0));
            due.fails(Due.ARGUMENT, () -> x.addMelody(0, 1, 16));
            due.fails(Due.ARGUMENT, () -> x.addMelody(0, 1, -1));
        });
        changesNothing(due, RefusedEdges::full, x -> due.fails(Due.STATE, () -> x.addMelody(0, 1, 0)));
    }

    static void promise3RefusedCallsChangeNothing(Due due) {
        changesNothing(due, RefusedEdges::busy, x -> {
            due.fails(Due.INDEX, () -> x.toneAt(3, 0));
            due.fails(Due.INDEX, () -> x.toneAt(1, 1));
            due.fails(Due.INDEX, () -> x.toneAt(0, -1));
        });
    }

    static void promise4RefusedCallsChangeNothing(Due due) {
        changesNothing(due, RefusedEdges::busy, x -> {
            due.fails(Due.INDEX, () -> x.shifted(3, 0));
            due.fails(Due.ARGUMENT, () -> x.shifted(0, 16));
            due.fails(Due.ARGUMENT, () -> x.shifted(0, -1));
        });
    }

    static void promise5RefusedCallsChangeNothing(Due due) {
        changesNothing(due, RefusedEdges::busy, x -> due.fails(Due.INDEX, () -> x.turned(3)));
    }

    static void promise6RefusedCallsChangeNothing(Due due) {
        changesNothing(due, RefusedEdges::busy, x -> {
            due.fails(Due.INDEX, () -> x.areAlike(0, 3));
            due.fails(Due.INDEX, () -> x.areAlike(-1, 0));
        });
    }

    static void promise7RefusedCallsChangeNothing(Due due) {
        changesNothing(due, RefusedEdges::busy, x -> {
            due.fails(Due.INDEX, () -> x.license(8, 0, 1));
            due.fails(Due.INDEX, () -> x.license(1, 3, 1));
            due.fails(Due.ARGUMENT, () -> x.license(1, 0, 0));
            due.fails(Due.ARGUMENT, () -> x.license(1, 0, 1001));
            due.fails(Due.STATE, () -> x.license(0, 0, 1));
            due.fails(Due.STATE, () -> x.license(1, 0, 998));
            due.fails(Due.STATE, () -> x.license(4, 0, 2));
        });
    }

    static void promise8RefusedCallsChangeNothing(Due due) {
        changesNothing(due, RefusedEdges::busy, x -> {
            due.fails(Due.INDEX, () -> x.setQuiet(8, 0, 999));
            due.fails(Due.ARGUMENT, () -> x.setQuiet(0, 0, 1000));
            due.fails(Due.ARGUMENT, () -> x.setQuiet(1, 1000, 999));
            due.fails(Due.ARGUMENT, () -> x.setQuiet(2, 0, -1));
            due.fails(Due.ARGUMENT, () -> x.setQuiet(2, -1, 0));
        });
    }

    static void promise9RefusedCallsChangeNothing(Due due) {
        changesNothing(due, RefusedEdges::busy, x -> {
            due.fails(Due.INDEX, () -> x.lay(8, 0, 1, 1));
            due.fails(Due.INDEX, () -> x.lay(0, 3, 1, 1));
            due.fails(Due.INDEX, () -> x.lay(0, 0, 3, 1));
            due.fails(Due.INDEX, () -> x.lay(4, 0, -2, 1));
            due.fails(Due.ARGUMENT, () -> x.lay(0, 0, 1, 0));
            due.fails(Due.ARGUMENT, () -> x.lay(0, 1, 1, 10));
            due.fails(Due.ARGUMENT, () -> x.lay(4, 0, BellStreet.NONE, 10));
        });
    }

    static void promise10RefusedCallsChangeNothing(Due due) {
        changesNothing(due, RefusedEdges::busy, x -> {
            due.fails(Due.INDEX, () -> x.press(-1, 0));
            due.fails(Due.INDEX, () -> x.press(1, 3));
            due.fails(Due.STATE, () -> x.press(1, 2));
            due.fails(Due.STATE, () -> x.press(2, 2));
            due.fails(Due.STATE, () -> x.press(3, 2));
        });
    }

    static void promise11RefusedCallsChangeNothing(Due due) {
        changesNothing(due, RefusedEdges::busy, x -> {
            due.fails(Due.INDEX, () -> x.fault(8));
            due.fails(Due.STATE, () -> x.fault(3));
            due.fails(Due.STATE, () -> x.fault(7));
        });
        changesNothing(due, RefusedEdges::full, x -> {
            due.fails(Due.STATE, () -> x.fault(1));
            due.fails(Due.STATE, () -> x.fault(2));
        });
    }

    static void promise12RefusedCallsChangeNothing(Due due) {
        changesNothing(due, RefusedEdges::busy, x -> {
            due.fails(Due.INDEX, () -> x.repair(8));
            due.fails(Due.STATE, () -> x.repair(3));
            due.fails(Due.STATE, () -> x.repair(6));
            due.fails(Due.STATE, () -> x.repair(0));
        });
    }

    static void promise13RefusedCallsChangeNothing(Due due) {
        changesNothing(due, RefusedEdges::busy, x -> {
            due.fails(Due.ARGUMENT, () -> x.pass(0));
            due.fails(Due.ARGUMENT, () -> x.pass(-1));
            due.fails(Due.ARGUMENT, () -> x.pass(2001));
            due.fails(Due.ARGUMENT, () -> x.pass(MIN));
            due.fails(Due.ARGUMENT, () -> x.pass(MAX));
        });
    }

    // At the end of time there are few calls left of the 512: a bell rings, and a refused pass lets it ring on.
    static void promise13ARefusedPassAtTheEndOfTime(Due due) {
        BellStreet x = new BellStreet();
        x.addMelody(0, 12, 0);
        x.lay(0, 0, 0, 1);
        for (int calls = 0; calls < 499; calls++) {
            x.pass(2000);
        }
        x.pass(1998);
        x.press(0, 0);
        due.fails(Due.STATE, () -> x.pass(3));
        due.is(0, () -> x.secondsRung(0));
        due.is(999, () -> x.points(0));
        due.is(1, () -> x.ringing(0));
        due.is(1000000, () -> x.pass(2));
        due.is(2, () -> x.secondsRung(0));
        due.is(1000, () -> x.points(0));
    }

    static void promise15RefusedLooksChangeNothing(Due due) {
        changesNothing(due, RefusedEdges::busy, x -> due.fails(Due.INDEX, () -> x.ringing(8)));
    }

    static void promise16RefusedLooksChangeNothing(Due due) {
        changesNothing(due, RefusedEdges::busy, x -> due.fails(Due.INDEX, () -> x.isSound(8)));
    }

    static void promise17RefusedLooksChangeNothing(Due due) {
        changesNothing(due, RefusedEdges::busy, x -> {
            due.fails(Due.INDEX, () -> x.ringsLeft(8, 0));
            due.fails(Due.INDEX, () -> x.ringsLeft(0, 3));
        });
    }

    static void promise18RefusedLooksChangeNothing(Due due) {
        changesNothing(due, RefusedEdges::busy, x -> due.fails(Due.INDEX, () -> x.points(8)));
    }

    static void promise19RefusedLooksChangeNothing(Due due) {
        changesNothing(due, RefusedEdges::busy, x -> due.fails(Due.INDEX, () -> x.secondsRung(8)));
    }

    static void promise20RefusedLooksChangeNothing(Due due) {
        changesNothing(due, RefusedEdges::busy, x -> due.fails(Due.INDEX, () -> x.quietBroken(8)));
    }

    static void promise21RefusedLooksChangeNothing(Due due) {
        changesNothing(due, RefusedEdges::busy, x -> due.fails(Due.INDEX, () -> x.hushed(8)));
    }

    static void promise23RefusedLooksChangeNothing(Due due) {
        changesNothing(due, RefusedEdges::busy, x -> {
            due.fails(Due.INDEX, () -> x.faultAt(2));
            due.fails(Due.INDEX, () -> x.faultAt(-1));
        });
    }
}
