/** Promises 1 to 7, sentence by sentence, at their edges. */
final class RiverEdges {
    private static final String SIX = "R001S01090S01090S01090S01090S01090S01090";

    private RiverEdges() {
    }

    static void test() {
        aNewObject();
        writeAByte();
        writeBad();
        writeFull();
        wipe();
        fault();
        faultNone();
        river();
        riverLate();
        about();
        aboutBad();
        sound();
        soundUnknown();
        soundBad();
    }

    private static void aNewObject() {
        Sentence.promise(1, "Nothing is heard.");
        EarFerry x = new EarFerry();
        for (int cell = 0; cell <= 9; cell++) {
            for (int hour = 0; hour <= 9; hour++) {
                Sentence.is("heard(" + cell + ", " + hour + ")", x.heard(cell, hour), 0);
            }
            Sentence.is("sure", x.sure(cell), 0);
            Sentence.is("where(0)", x.where(0, cell), 1023);
            Sentence.is("when(0)", x.when(0, cell), 1023);
            Sentence.is("spared", x.spared(cell), Sentence.NONE);
            Sentence.is("chance", x.chance(cell, cell, cell, true), 0);
            Sentence.is("bestHours", x.bestHours(cell + 1, 1), 0);
        }
        Sentence.is("days", x.days(30), 0);
        Sentence.is("row", x.row(1), 0);
        int[] want = {0, 0, 0, 0, 1, 0, 0, Sentence.NONE, Sentence.NONE, 0, 0, 0};
        for (int what = 0; what <= 11; what++) {
            Sentence.is("about(" + what + ")", new EarFerry().about(what), want[what]);
        }
        Sentence.is("two objects are apart", oneWritesOtherReads(), 0);
    }

    private static int oneWritesOtherReads() {
        EarFerry one = new EarFerry();
        EarFerry other = new EarFerry();
        one.write('R');
        one.hammer(3);
        one.keep(0);
        one.seed(9);
        return other.about(11) + other.about(6) + (int) other.seed(0) + (other.again(0) == Sentence.LATE ? 0 : 1);
    }

    private static void writeAByte() {
        Sentence.promise(2, "A byte (0 .. 255) comes behind THE TEXT: how long it is.");
        for (int letter = 0; letter <= 255; letter++) {
            EarFerry x = new EarFerry();
            Sentence.is("write(" + letter + ") first", x.write(letter), 1);
            Sentence.is("write(" + letter + ") second", x.write(letter), 2);
            Sentence.is("about(11)", x.about(11), 2);
            Sentence.is("fault()", x.fault(), letter == 'R' ? 1 : 0);
        }
    }

    private static void writeBad() {
        Sentence.promise(2, "BAD;");
        Sentence.range("write", 0, 255, (x, letter) -> x.write(letter), Sentence.BAD);
        // A byte by its lower bits alone is none.
        Sentence.refused("write(82 + 256)", Sentence::busy, x -> x.write(82 + 256), Sentence.BAD);
        Sentence.refused("write(82 - 256)", Sentence::busy, x -> x.write(82 - 256), Sentence.BAD);
    }

    private static void writeFull() {
        Sentence.promise(2, "FULL: there are 40.");
        EarFerry x = new EarFerry();
        Due.text(x, SIX.substring(0, 39));
        Sentence.is("the 40th", x.write('0'), 40);
        for (int letter = 0; letter <= 255; letter += 51) {
            Sentence.is("the 41st", x.write(letter), Sentence.FULL);
        }
        Sentence.is("there are 40", x.about(11), 40);
        Sentence.is("fault()", x.fault(), Sentence.NONE);
        Sentence.is("river()", x.river(), 6);
        Sentence.refused("write(82)", () -> Due.on(SIX), y -> y.write(82), Sentence.FULL);
        Sentence.refused("BAD is told first", () -> Due.on(SIX), y -> y.write(256), Sentence.BAD);
    }

    private static void wipe() {
        Sentence.promise(3, "THE TEXT is empty: how long it was.");
        for (int length = 0; length <= 40; length++) {
            EarFerry x = new EarFerry();
            Due.text(x, SIX.substring(0, length));
            Sentence.is("wipe()", x.wipe(), length);
            Sentence.is("about(11)", x.about(11), 0);
            Sentence.is("fault()", x.fault(), 0);
            Sentence.is("wipe() once more", x.wipe(), 0);
            Sentence.is("river()", x.river(), Sentence.LATE);
        }
        EarFerry y = Due.on(SIX);
        y.hour();
        y.wipe();
        Sentence.is("the river stays", y.about(0), 6);
        Sentence.is("and the acts", y.about(9), 1);
    }

    private static void fault() {
        Sentence.promise(4, "FAULT;");
        Object[][] rows = {
            {"", 0}, {"R", 1}, {"r", 0}, {"R4", 2}, {"R40", 3}, {"R:", 1}, {"R/", 1}, {"R05", 2}, {"R0/", 2}, {"R003", 3},
            {"R00/", 3}, {"R001T", 4}, {"R001S:", 5}, {"R001S00", 6}, {"R001S0:", 6}, {"R001S01:", 7},
            {"R001S0154", 8}, {"R001S015:", 8}, {"R001S01594", 9}, {"R001S0159/", 9}, {"R001S01593x", 10},
            {"R001S01593S", 11}, {"XX", 0}, {"RXX", 1}
        };
        for (Object[] row : rows) {
            String text = (String) row[0];
            EarFerry x = new EarFerry();
            Due.text(x, text);
            Sentence.is("fault() of " + text, x.fault(), (Integer) row[1]);
            Sentence.is("fault() of " + text + " once more", x.fault(), (Integer) row[1]);
        }
        Sentence.changesNothing("fault()", Sentence::busy, x -> x.fault());
    }

    private static void faultNone() {
        Sentence.promise(4, "NONE.");
        for (int length = 4; length <= 40; length += 6) {
            EarFerry x = new EarFerry();
            Due.text(x, SIX.substring(0, length));
            Sentence.is("fault() of " + length, x.fault(), Sentence.NONE);
        }
    }

    private static void river() {
        Sentence.promise(5, "THE TEXT is THE RIVER (no ACTS; what was kept is gone; SEEN, THE SEED stay):"
            + " how many SOUNDS.");
        for (int many = 0; many <= 6; many++) {
            EarFerry x = Sentence.busy();
            Due.text(x, SIX.substring(0, 4 + 6 * many));
            Sentence.is("river()", x.river(), many);
            Sentence.is("no ACTS", x.about(9), 0);
            Sentence.is("undo()", x.undo(), Sentence.LATE);
            Sentence.is("again(0)", x.again(0), Sentence.LATE);
            Sentence.is("again(1)", x.again(1), Sentence.LATE);
            Sentence.is("SEEN", x.about(10), 2);
            Sentence.is("THE TEXT stays", x.about(11), 4 + 6 * many);
            Sentence.is("THE SEED", x.seed(0), 77);
            Sentence.is("river() once more", x.river(), many);
        }
    }

    private static void riverLate() {
        Sentence.promise(5, "LATE: a FAULT.");
        Sentence.refused("an empty text", EarFerry::new, x -> x.river(), Sentence.LATE);
        Sentence.refused("not at its end", Sentence::busy, x -> x.river(), Sentence.LATE);
        for (int length = 0; length <= 40; length++) {
            EarFerry x = new EarFerry();
            Due.text(x, SIX.substring(0, length));
            boolean whole = length >= 4 && (length - 4) % 6 == 0;
            Sentence.is("river() of " + length, x.river(), whole ? (length - 4) / 6 : Sentence.LATE);
        }
        Sentence.refused("a bad byte", () -> badText(), x -> x.river(), Sentence.LATE);
    }

    private static EarFerry badText() {
        EarFerry x = Sentence.busy();
        Due.text(x, "R942S01094");
        return x;
    }

    private static void about() {
        Sentence.promise(6, "SOUNDS (what = 0), where THE FERRY is (1), THE HOUR (2), RAIN (3), WIND (4),"
            + " HUSHED ones (5: bits), HAMMERS (6), the CELL of the first one (7; NONE), of the second one (8; NONE),"
            + " ACTS (9), SEEN (10), bytes of THE TEXT (11).");
        aboutIs(new EarFerry(), 0, 0, 0, 0, 1, 0, 0, Sentence.NONE, Sentence.NONE, 0, 0, 0);
        aboutIs(Sentence.busy(), 3, 5, 2, 1, 2, 2, 2, 7, 9, 9, 2, 2);
        aboutIs(utmost(), 6, 9, 9, 4, 2, 63, 2, 9, 0, 14, 6, 40);
        EarFerry x = new EarFerry();
        x.hammer(0);
        aboutIs(x, 0, 0, 0, 0, 1, 0, 1, 0, Sentence.NONE, 1, 0, 0);
        x.hammer(9);
        aboutIs(x, 0, 0, 0, 0, 1, 0, 2, 0, 9, 2, 0, 0);
        x.hammer(0);
        aboutIs(x, 0, 0, 0, 0, 1, 0, 1, 9, Sentence.NONE, 3, 0, 0);
    }

    /** Everything at its greatest. */
    private static EarFerry utmost() {
        EarFerry x = Due.on("R942S01090S01090S01090S01090S01090S01090");
        for (int sound = 0; sound < 6; sound++) {
            x.hush(sound);
            x.see(sound, 0, 0, true);
        }
        x.hammer(9);
        x.hammer(0);
        for (int i = 0; i < 9; i++) {
            x.hour();
        }
        return x;
    }

    private static void aboutIs(EarFerry x, int... want) {
        for (int what = 0; what <= 11; what++) {
            Sentence.is("about(" + what + ")", x.about(what), want[what]);
        }
    }

    private static void aboutBad() {
        Sentence.promise(6, "bytes of THE TEXT (11). BAD.");
        Sentence.range("about", 0, 11, (x, what) -> x.about(what), Sentence.BAD);
    }

    private static void sound() {
        Sentence.promise(7, "Of a SOUND its CELL (what = 0), how loud (1), from which HOUR (2), to which (3), KIND (4),"
            + " CELLS at which it is HEARD now (5: bits).");
        soundIs("S01000", 0, 1, 0, 0, 0, Sentence.bits(0, 0));
        soundIs("S99993", 9, 9, 9, 9, 3, 0);
        soundIs("S99093", 9, 9, 0, 9, 3, Sentence.bits(1, 9));
        soundIs("S55192", 5, 5, 1, 9, 2, 0);
        EarFerry x = Due.on("R021S53231S55492S43683S57890");
        for (int hour = 0; hour <= 9; hour++) {
            for (int sound = 0; sound < 4; sound++) {
                int cells = 0;
                for (int cell = 0; cell <= 9; cell++) {
                    cells |= (x.heard(cell, hour) >> sound & 1) << cell;
                }
                Sentence.is("sound(" + sound + ", 5) at " + hour, x.sound(sound, 5), cells);
            }
            x.hour();
        }
    }

    private static void soundIs(String part, int... want) {
        EarFerry x = Due.on("R001S31230" + part);
        for (int what = 0; what <= 5; what++) {
            Sentence.is("sound(1, " + what + ") of " + part, x.sound(1, what), want[what]);
        }
    }

    private static void soundUnknown() {
        Sentence.promise(7, "UNKNOWN;");
        Sentence.range("sound", 0, 2, (x, sound) -> x.sound(sound, 0), Sentence.UNKNOWN);
        Sentence.refused("of none", EarFerry::new, x -> x.sound(0, 0), Sentence.UNKNOWN);
        for (int sound = 0; sound < 6; sound++) {
            Sentence.is("of six", Due.on(SIX).sound(sound, 1), 1);
        }
        Sentence.refused("a hammer", Sentence::busy, x -> x.sound(6, 0), Sentence.UNKNOWN);
        Sentence.refused("behind six", () -> Due.on(SIX), x -> x.sound(6, 0), Sentence.UNKNOWN);
        Sentence.refused("told first", Sentence::busy, x -> x.sound(3, 6), Sentence.UNKNOWN);
        EarFerry fewer = Due.on(SIX);
        Due.text(fewer, SIX.substring(0, 10));
        fewer.river();
        Sentence.is("of a river with fewer", fewer.sound(1, 0), Sentence.UNKNOWN);
    }

    private static void soundBad() {
        Sentence.promise(7, "UNKNOWN; BAD.");
        Sentence.range("sound, what", 0, 5, (x, what) -> x.sound(0, what), Sentence.BAD);
        Sentence.range("sound, what, of a hushed one", 0, 5, (x, what) -> x.sound(1, what), Sentence.BAD);
    }
}
