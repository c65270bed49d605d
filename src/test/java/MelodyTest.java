/** Promises 2 to 7: melodies, and the rights to them. */
public final class MelodyTest {
    private static final Due due = new Due();

    public static void main(String[] args) {
        addMelodyNumbersFromZero();
        addMelodyLooksAtItsArguments();
        addMelodyEndsAtTwelve();
        toneAtTellsEachTone();
        shiftedAddsModuloSixteen();
        turnedBeginsWithTheLast();
        areAlikeByShifting();
        licenseAddsRings();
        licenseLooksAtItsArguments();
        due.end();
    }

    private static void addMelodyNumbersFromZero() {
        BellStreet x = new BellStreet();
        due.is("addMelody the first", 0, () -> x.addMelody(0, 1, 0));
        due.is("addMelody the second", 1, () -> x.addMelody(7, 12, 0xFFFFFFFFFFFFL));
        due.is("addMelody with one tone of 15", 2, () -> x.addMelody(3, 1, 15));
        due.is("addMelody the same again", 3, () -> x.addMelody(3, 1, 15));
    }

    private static void addMelodyLooksAtItsArguments() {
        BellStreet x = new BellStreet();
        due.fails("addMelody of the house -1", Due.INDEX, () -> x.addMelody(-1, 1, 0));
        due.fails("addMelody of the house 8", Due.INDEX, () -> x.addMelody(8, 1, 0));
        due.fails("addMelody of the house 8, all wrong", Due.INDEX, () -> x.addMelody(8, 0, -1));
        due.fails("addMelody of the house MIN", Due.INDEX, () -> x.addMelody(Integer.MIN_VALUE, 1, 0));
        due.fails("addMelody of 0 tones", Due.ARGUMENT, () -> x.addMelody(0, 0, 0));
        due.fails("addMelody of 13 tones", Due.ARGUMENT, () -> x.addMelody(0, 13, 0));
        due.fails("addMelody of 16 tones", Due.ARGUMENT, () -> x.addMelody(0, 16, 0));
        due.fails("addMelody of MAX tones", Due.ARGUMENT, () -> x.addMelody(0, Integer.MAX_VALUE, 0));
        due.fails("addMelody of MIN tones", Due.ARGUMENT, () -> x.addMelody(0, Integer.MIN_VALUE, 0));
        due.fails("addMelody with tones -1", Due.ARGUMENT, () -> x.addMelody(0, 12, -1));
        due.fails("addMelody with tones MIN", Due.ARGUMENT, () -> x.addMelody(0, 12, Long.MIN_VALUE));
        due.fails("addMelody with tones MAX", Due.ARGUMENT, () -> x.addMelody(0, 12, Long.MAX_VALUE));
        due.fails("addMelody with a bit above one tone", Due.ARGUMENT, () -> x.addMelody(0, 1, 16));
        due.fails("addMelody with a bit above twelve tones", Due.ARGUMENT, () -> x.addMelody(0, 12, 1L << 48));
        due.fails("addMelody with a bit far above eight tones", Due.ARGUMENT, () -> x.addMelody(0, 8, 1L << 40));
        due.fails("no melody was added", Due.INDEX, () -> x.turned(0));
        due.is("addMelody after what threw", 0, () -> x.addMelody(0, 8, 0xFFFFFFFFL));
    }

    private static void addMelodyEndsAtTwelve() {
        BellStreet x = new BellStreet();
        for (int number = 0; number < 12; number++) {
            int tone = number;
            due.is("addMelody " + number, number, () -> x.addMelody(tone % 8, 1, tone));
        }
        due.fails("addMelody the 13th", Due.STATE, () -> x.addMelody(0, 1, 0));
        due.fails("addMelody the 13th of no house", Due.INDEX, () -> x.addMelody(-1, 1, 0));
        due.fails("addMelody the 13th of 0 tones", Due.ARGUMENT, () -> x.addMelody(0, 0, 0));
        due.fails("addMelody the 13th with bits above", Due.ARGUMENT, () -> x.addMelody(0, 1, 16));
        due.is("the 12th stays", 11, () -> x.toneAt(11, 0));
        due.fails("there is no 13th", Due.INDEX, () -> x.toneAt(12, 0));
        due.is("the 12th is one of the house 3", BellStreet.NONE, () -> x.ringsLeft(3, 11));
    }

    private static void toneAtTellsEachTone() {
        BellStreet x = new BellStreet();
        x.addMelody(0, 12, 0xFEDCBA987654L);
        x.addMelody(0, 2, 0x0F);
        for (int place = 0; place < 12; place++) {
            int at = place;
            due.is("toneAt(0, " + place + ")", 4 + place, () -> x.toneAt(0, at));
        }
        due.is("toneAt(1, 0)", 15, () -> x.toneAt(1, 0));
        due.is("toneAt(1, 1)", 0, () -> x.toneAt(1, 1));
        due.fails("toneAt(0, 12)", Due.INDEX, () -> x.toneAt(0, 12));
        due.fails("toneAt(1, 2)", Due.INDEX, () -> x.toneAt(1, 2));
        due.fails("toneAt(0, -1)", Due.INDEX, () -> x.toneAt(0, -1));
        due.fails("toneAt(0, MAX)", Due.INDEX, () -> x.toneAt(0, Integer.MAX_VALUE));
        due.fails("toneAt(-1, 0)", Due.INDEX, () -> x.toneAt(-1, 0));
        due.fails("toneAt(2, 0)", Due.INDEX, () -> x.toneAt(2, 0));
        due.fails("toneAt(12, 0)", Due.INDEX, () -> x.toneAt(12, 0));
        due.fails("toneAt(MIN, 0)", Due.INDEX, () -> x.toneAt(Integer.MIN_VALUE, 0));
    }

    private static void shiftedAddsModuloSixteen() {
        BellStreet x = new BellStreet();
        x.addMelody(0, 3, 0xF10);
        x.addMelody(0, 12, 0xFFFFFFFFFFFFL);
        x.addMelody(0, 12, 0xFEDCBA987654L);
        due.is("shifted(0, 0)", 0xF10, () -> x.shifted(0, 0));
        due.is("shifted(0, 1)", 0x021, () -> x.shifted(0, 1));
        due.is("shifted(0, 15)", 0xE0F, () -> x.shifted(0, 15));
        due.is("shifted(1, 1)", 0, () -> x.shifted(1, 1));
        due.is("shifted(1, 15)", 0xEEEEEEEEEEEEL, () -> x.shifted(1, 15));
        due.is("shifted(2, 12)", 0xBA9876543210L, () -> x.shifted(2, 12));
        due.is("shifted leaves the melody", 0xF10, () -> x.shifted(0, 0));
        due.fails("shifted(0, -1)", Due.ARGUMENT, () -> x.shifted(0, -1));
        due.fails("shifted(0, 16)", Due.ARGUMENT, () -> x.shifted(0, 16));
        due.fails("shifted(3, 0)", Due.INDEX, () -> x.shifted(3, 0));
        due.fails("shifted(-1, 0)", Due.INDEX, () -> x.shifted(-1, 0));
        due.fails("shifted(3, 16)", Due.INDEX, () -> x.shifted(3, 16));
    }

    private static void turnedBeginsWithTheLast() {
        BellStreet x = new BellStreet();
        x.addMelody(0, 3, 0x0F1);
        x.addMelody(0, 12, 0xFEDCBA987654L);
        x.addMelody(0, 1, 9);
        x.addMelody(0, 12, 0x00000000000FL);
        due.is("turned(0)", 0x1F0, () -> x.turned(0));
        due.is("turned(1)", 0x456789ABCDEFL, () -> x.turned(1));
        due.is("turned(2)", 9, () -> x.turned(2));
        due.is("turned(3)", 0xF00000000000L, () -> x.turned(3));
        due.is("turned leaves the melody", 0x0F1, () -> x.shifted(0, 0));
        due.fails("turned(4)", Due.INDEX, () -> x.turned(4));
        due.fails("turned(-1)", Due.INDEX, () -> x.turned(-1));
        due.fails("turned(12)", Due.INDEX, () -> x.turned(12));
    }

    private static void areAlikeByShifting() {
        BellStreet x = new BellStreet();
        x.addMelody(0, 3, 0xF10);
        x.addMelody(5, 3, 0x132);
        x.addMelody(0, 3, 0x133);
        x.addMelody(0, 3, 0x01F);
        x.addMelody(0, 2, 0);
        x.addMelody(0, 3, 0);
        x.addMelody(0, 2, 0x10);
        due.tells("areAlike(0, 0)", true, () -> x.areAlike(0, 0));
        due.tells("areAlike(0, 1)", true, () -> x.areAlike(0, 1));
        due.tells("areAlike(1, 0)", true, () -> x.areAlike(1, 0));
        due.tells("areAlike(1, 2)", false, () -> x.areAlike(1, 2));
        due.tells("areAlike of one and it turned", false, () -> x.areAlike(0, 3));
        due.tells("areAlike of 2 and 3 equal tones", false, () -> x.areAlike(4, 5));
        due.tells("areAlike of 3 and 2 equal tones", false, () -> x.areAlike(5, 4));
        due.tells("areAlike of one and its begin", false, () -> x.areAlike(0, 6));
        due.fails("areAlike(7, 0)", Due.INDEX, () -> x.areAlike(7, 0));
        due.fails("areAlike(0, 7)", Due.INDEX, () -> x.areAlike(0, 7));
        due.fails("areAlike(-1, 0)", Due.INDEX, () -> x.areAlike(-1, 0));
        due.fails("areAlike(0, -1)", Due.INDEX, () -> x.areAlike(0, -1));
        due.fails("areAlike(12, 12)", Due.INDEX, () -> x.areAlike(12, 12));
    }

    private static void licenseAddsRings() {
        BellStreet x = new BellStreet();
        x.addMelody(0, 1, 0);
        x.addMelody(1, 1, 0);
        due.is("license(1, 0, 1)", 1, () -> x.license(1, 0, 1));
        due.is("license(1, 0, 998)", 999, () -> x.license(1, 0, 998));
        due.fails("license above 1000", Due.STATE, () -> x.license(1, 0, 2));
        due.is("ringsLeft after that", 999, () -> x.ringsLeft(1, 0));
        due.is("license up to 1000", 1000, () -> x.license(1, 0, 1));
        due.is("license of another house", 1000, () -> x.license(2, 0, 1000));
        due.is("license of another melody", 5, () -> x.license(0, 1, 5));
        due.is("ringsLeft of another melody of that house", 0, () -> x.ringsLeft(2, 1));
    }

    private static void licenseLooksAtItsArguments() {
        BellStreet x = new BellStreet();
        x.addMelody(0, 1, 0);
        due.fails("license(-1, 0, 1)", Due.INDEX, () -> x.license(-1, 0, 1));
        due.fails("license(8, 0, 1)", Due.INDEX, () -> x.license(8, 0, 1));
        due.fails("license(1, -1, 1)", Due.INDEX, () -> x.license(1, -1, 1));
        due.fails("license(1, 1, 1)", Due.INDEX, () -> x.license(1, 1, 1));
        due.fails("license(1, 1, 0)", Due.INDEX, () -> x.license(1, 1, 0));
        due.fails("license(8, 0, 0)", Due.INDEX, () -> x.license(8, 0, 0));
        due.fails("license(1, 0, 0)", Due.ARGUMENT, () -> x.license(1, 0, 0));
        due.fails("license(1, 0, 1001)", Due.ARGUMENT, () -> x.license(1, 0, 1001));
        due.fails("license(1, 0, MAX)", Due.ARGUMENT, () -> x.license(1, 0, Integer.MAX_VALUE));
        due.fails("license of the owner, 1001 rings", Due.ARGUMENT, () -> x.license(0, 0, 1001));
        due.fails("license of the owner", Due.STATE, () -> x.license(0, 0, 1));
        due.is("ringsLeft after that", 0, () -> x.ringsLeft(1, 0));
        due.is("ringsLeft of the owner", BellStreet.NONE, () -> x.ringsLeft(0, 0));
    }
}
