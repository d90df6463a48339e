/** Promises 22 to 31, sentence by sentence, at their edges. */
final class FoundEdges {
    private static final String SIX = "R001S01090S01090S01090S01090S01090S01090";

    private FoundEdges() {
    }

    static void test() {
        grounded();
        groundedUnknown();
        groundedBad();
        see();
        seeUnknown();
        seeBad();
        seeFull();
        unsee();
        weather();
        weatherBad();
        rivals();
        rivalsBad();
        chance();
        chanceBad();
        seed();
        days();
        daysBad();
        keep();
        keepUnknown();
        again();
        againUnknown();
        againLate();
    }

    private static void grounded() {
        Sentence.promise(22, "GROUNDED: CELLS, as bits.");
        EarFerry x = Due.on("R001S51091");
        Sentence.is("at the first cell, 1 loud", x.grounded(0, 0, 5, 0, 1), Sentence.bits(0, 0));
        Sentence.is("at the last cell, 1 loud", x.grounded(0, 9, 5, 9, 1), Sentence.bits(9, 9));
        Sentence.is("at the first cell, 9 loud", x.grounded(0, 0, 5, 0, 9), Sentence.bits(0, 8));
        Sentence.is("at the last cell, 9 loud", x.grounded(0, 9, 5, 9, 9), Sentence.bits(1, 9));
        Sentence.is("in the middle, 9 loud: from all", x.grounded(0, 4, 5, 0, 9), 1023);
        Sentence.is("taken for where it is not heard", x.grounded(0, 0, 4, 0, 9), 0);
        Sentence.is("taken for itself", x.grounded(0, 4, 4, 0, 9), 0);
        x.change(4, 1);
        Sentence.is("no louder than the rain", x.grounded(0, 0, 5, 0, 4), 0);
        Sentence.is("louder than the rain by 1", x.grounded(0, 0, 5, 0, 5), Sentence.bits(0, 0));
        EarFerry six = Due.on("R001S51090S51090S51090S51090S51090S01090");
        Sentence.is("all but the last at t", six.grounded(5, 5, 0, 0, 1), 0);
        Sentence.is("nothing and the last", six.grounded(5, 9, 0, 0, 1), Sentence.bits(9, 9));
    }

    private static void groundedUnknown() {
        Sentence.promise(22, "UNKNOWN: sound;");
        Sentence.range("grounded", 0, 2, (x, sound) -> x.grounded(sound, 9, 5, 0, 1), Sentence.UNKNOWN);
        Sentence.refused("of none", EarFerry::new, x -> x.grounded(0, 9, 5, 0, 1), Sentence.UNKNOWN);
        Sentence.refused("a hammer", Sentence::busy, x -> x.grounded(6, 0, 7, 0, 1), Sentence.UNKNOWN);
        Sentence.refused("told first", Sentence::busy, x -> x.grounded(3, 10, 10, 10, 10), Sentence.UNKNOWN);
    }

    private static void groundedBad() {
        Sentence.promise(22, "BAD: g, t, hour, loud.");
        Sentence.range("grounded, g", 0, 9, (x, g) -> x.grounded(0, g, 0, 0, 1), Sentence.BAD);
        Sentence.range("grounded, t", 0, 9, (x, t) -> x.grounded(0, 0, t, 0, 1), Sentence.BAD);
        Sentence.range("grounded, hour", 0, 9, (x, hour) -> x.grounded(0, 0, 0, hour, 1), Sentence.BAD);
        Sentence.range("grounded, loud", 1, 9, (x, loud) -> x.grounded(0, 0, 0, 0, loud), Sentence.BAD);
        Sentence.refused("all", Sentence::busy, x -> x.grounded(0, -1, -1, -1, 0), Sentence.BAD);
        Sentence.refused("also of a hushed one", Sentence::busy, x -> x.grounded(1, 0, 0, 0, 0), Sentence.BAD);
    }

    private static void see() {
        Sentence.promise(23, "SEEN: how many there are.");
        EarFerry x = Due.on(SIX);
        for (int i = 0; i < 6; i++) {
            Sentence.is("see", x.see(i, 9 * (i % 2), 9 * (i / 3), i % 2 == 0), i + 1);
            Sentence.is("about(10)", x.about(10), i + 1);
        }
        Sentence.is("no ACT", x.about(9), 0);
        EarFerry hushed = Due.on(SIX);
        hushed.hush(0);
        Sentence.is("of a hushed one", hushed.see(0, 0, 0, true), 1);
        EarFerry same = Due.on(SIX);
        same.see(0, 0, 0, true);
        Sentence.is("the same once more", same.see(0, 0, 0, true), 2);
        Sentence.is("what is not so", same.see(0, 9, 0, true), 3);
    }

    private static void seeUnknown() {
        Sentence.promise(23, "UNKNOWN;");
        Sentence.range("see", 0, 2, (x, sound) -> x.see(sound, 0, 0, true), Sentence.UNKNOWN);
        Sentence.refused("of none", EarFerry::new, x -> x.see(0, 0, 0, true), Sentence.UNKNOWN);
        Sentence.refused("a hammer", Sentence::busy, x -> x.see(6, 7, 0, true), Sentence.UNKNOWN);
        Sentence.refused("told first", Sentence::busy, x -> x.see(3, 10, 10, true), Sentence.UNKNOWN);
        Sentence.refused("told first of all", FoundEdges::sawSix, x -> x.see(6, 10, 10, true), Sentence.UNKNOWN);
    }

    private static void seeBad() {
        Sentence.promise(23, "BAD: cell, hour;");
        Sentence.range("see, cell", 0, 9, (x, cell) -> x.see(0, cell, 0, true), Sentence.BAD);
        Sentence.range("see, hour", 0, 9, (x, hour) -> x.see(0, 0, hour, true), Sentence.BAD);
        Sentence.refused("told before FULL", FoundEdges::sawSix, x -> x.see(0, 10, 0, true), Sentence.BAD);
        Sentence.refused("told before FULL", FoundEdges::sawSix, x -> x.see(0, 0, -1, true), Sentence.BAD);
    }

    private static EarFerry sawSix() {
        EarFerry x = Due.on(SIX);
        for (int i = 0; i < 6; i++) {
            x.see(i, 0, i, true);
        }
        return x;
    }

    private static void seeFull() {
        Sentence.promise(23, "FULL: 6.");
        Sentence.refused("the seventh", FoundEdges::sawSix, x -> x.see(0, 0, 0, true), Sentence.FULL);
        Sentence.refused("the seventh, not heard", FoundEdges::sawSix, x -> x.see(5, 9, 9, false), Sentence.FULL);
        EarFerry x = sawSix();
        x.unsee();
        Sentence.is("there is room again", x.see(0, 0, 0, true), 1);
    }

    private static void unsee() {
        Sentence.promise(24, "Nothing is SEEN: how much there was.");
        for (int many = 0; many <= 6; many++) {
            EarFerry x = Due.on("R001S51091");
            for (int i = 0; i < many; i++) {
                x.see(0, 5, 0, true);
            }
            Sentence.is("weather(0)", x.weather(0), many == 0 ? 15 : 5);
            Sentence.is("unsee()", x.unsee(), many);
            Sentence.is("about(10)", x.about(10), 0);
            Sentence.is("weather(0)", x.weather(0), 15);
            Sentence.is("unsee() once more", x.unsee(), 0);
        }
        EarFerry y = sawSix();
        y.unsee();
        y.see(0, 9, 0, false);
        Sentence.is("what was seen before is not looked at", y.weather(0), 15);
    }

    private static void weather() {
        Sentence.promise(25, "WEATHER: how many pairs (what = 0), the first one (1; NONE).");
        EarFerry x = Due.on("R001S51091S54093");
        Sentence.is("all", x.weather(0), 15);
        Sentence.is("the first", x.weather(1), 0);
        x.see(0, 6, 0, true);
        Sentence.is("by wind 2", x.weather(0), 5);
        Sentence.is("the first", x.weather(1), 2);
        x.see(1, 5, 0, false);
        Sentence.is("by rain 4 and wind 2 alone", x.weather(0), 1);
        Sentence.is("the first: the last that can be", x.weather(1), 42);
        x.see(1, 5, 0, true);
        Sentence.is("none", x.weather(0), 0);
        Sentence.is("NONE", x.weather(1), Sentence.NONE);
        Sentence.is("no sounds", new EarFerry().weather(0), 15);
        Sentence.is("no sounds", new EarFerry().weather(1), 0);
    }

    private static void weatherBad() {
        Sentence.promise(25, "(1; NONE). BAD.");
        Sentence.range("weather", 0, 1, (x, what) -> x.weather(what), Sentence.BAD);
    }

    private static void rivals() {
        Sentence.promise(26, "RIVALS: how many pairs (what = 0), the first one (1; NONE).");
        Object[][] rows = {{"R041", 111, 1}, {"R010", 1, 10}, {"R012", 1, 109}, {"R001", 11, 10},
            {"R001S33090S43090S53090S63090S73090", 111, 1}};
        for (Object[] row : rows) {
            EarFerry x = Due.on((String) row[0]);
            Sentence.is("how many of " + row[0], x.rivals(9, 0), (Integer) row[1]);
            Sentence.is("the first of " + row[0], x.rivals(9, 1), (Integer) row[2]);
        }
        EarFerry x = Due.on("R041S01550");
        Sentence.is("by rain 4 at an hour with a sound", x.rivals(5, 0), 111);
    }

    private static void rivalsBad() {
        Sentence.promise(26, "BAD: hour, what.");
        Sentence.range("rivals, hour", 0, 9, (x, hour) -> x.rivals(hour, 0), Sentence.BAD);
        Sentence.range("rivals, what", 0, 1, (x, what) -> x.rivals(0, what), Sentence.BAD);
        Sentence.refused("both", Sentence::busy, x -> x.rivals(10, 2), Sentence.BAD);
    }

    private static void chance() {
        Sentence.promise(27, "CHANCE.");
        EarFerry x = Due.on(SIX);
        int[] above = {1, 999999, 15624, 999271, 15561, 63, 14896, 882351, 11529, 468559, 0};
        int[] below = {1, 1000000, 15625, 1000000, 15625, 64, 15625, 1000000, 15625, 1000000, 1};
        for (int tenths = 0; tenths <= 10; tenths++) {
            Sentence.fraction("one of six does not fail by " + tenths, x.chance(0, 9, tenths, true),
                x.chance(0, 9, tenths, false), above[tenths], below[tenths]);
            Sentence.fraction("a cell that is never sure", x.chance(9, 0, tenths, true), x.chance(9, 0, tenths, false),
                0, 1);
        }
        EarFerry none = new EarFerry();
        Sentence.fraction("no sounds", none.chance(0, 0, 5, true), none.chance(0, 0, 5, false), 0, 1);
    }

    private static void chanceBad() {
        Sentence.promise(27, "BAD: cell, hour, x.");
        Sentence.range("chance, cell", 0, 9, (x, cell) -> x.chance(cell, 0, 0, true), Sentence.BAD);
        Sentence.range("chance, hour", 0, 9, (x, hour) -> x.chance(0, hour, 0, false), Sentence.BAD);
        Sentence.range("chance, x", 0, 10, (x, tenths) -> x.chance(0, 0, tenths, true), Sentence.BAD);
        Sentence.refused("all", Sentence::busy, x -> x.chance(10, 10, 11, false), Sentence.BAD);
    }

    private static void seed() {
        Sentence.promise(28, "THE SEED is v: what it was.");
        EarFerry x = new EarFerry();
        long[] seeds = {Long.MIN_VALUE, Long.MAX_VALUE, -1, 1L << 32, -9, 0};
        long was = 0;
        for (long seed : seeds) {
            Sentence.is("seed(" + seed + ")", x.seed(seed), was);
            was = seed;
        }
        x.seed(5);
        Sentence.is("no ACT", x.about(9), 0);
        x.hour();
        x.undo();
        x.keep(0);
        x.seed(6);
        x.again(0);
        Sentence.is("it is neither undone nor kept", x.seed(0), 6);
    }

    private static void days() {
        Sentence.promise(29, "DAYS.");
        EarFerry x = Due.on("R001S01090");
        Sentence.is("from seed 0 the sound fails first", x.days(1), 0);
        for (int m = 1; m <= 30; m++) {
            x.seed(Long.MAX_VALUE);
            Sentence.is("days(" + m + ")", x.days(m), Tried.days("R001S01090", 0, 0, Long.MAX_VALUE, m, 0));
        }
        EarFerry two = Due.on("R001S01090");
        two.seed(4);
        int both = two.days(13) + two.days(17);
        two.seed(4);
        Sentence.is("the seed goes on", two.days(30), both);
        EarFerry hammered = Due.on("R301");
        hammered.hammer(0);
        hammered.hammer(1);
        Sentence.is("hammers do not fail", hammered.days(30), 30);
    }

    private static void daysBad() {
        Sentence.promise(29, "BAD: m.");
        Sentence.range("days", 1, 30, (x, m) -> x.days(m), Sentence.BAD);
        Sentence.refused("days(0) on a new object", EarFerry::new, x -> x.days(0), Sentence.BAD);
    }

    private static void keep() {
        Sentence.promise(30, "They are kept: THE HOUR.");
        EarFerry x = new EarFerry();
        for (int hour = 0; hour <= 9; hour++) {
            Sentence.is("keep(0) at " + hour, x.keep(0), hour);
            x.hour();
        }
        Sentence.is("keep(1) at 0 again", x.keep(1), 0);
        Sentence.is("the last that was kept in 0", x.again(0), 9);
        Sentence.is("and in 1", x.again(1), 0);
        Sentence.is("no ACT", x.about(9), 0);
        x.hour();
        x.keep(0);
        Sentence.is("to keep is no ACT, and leaves them", x.about(9), 1);
    }

    private static void keepUnknown() {
        Sentence.promise(30, "UNKNOWN.");
        Sentence.range("keep", 0, 1, (x, slot) -> x.keep(slot), Sentence.UNKNOWN);
        Sentence.refused("keep(2)", EarFerry::new, x -> x.keep(2), Sentence.UNKNOWN);
        Sentence.refused("keep(-1)", EarFerry::new, x -> x.keep(-1), Sentence.UNKNOWN);
    }

    private static void again() {
        Sentence.promise(31, "They are as they were kept: THE HOUR.");
        EarFerry x = Sentence.busy();
        int[] first = {4, 0, 0, 1, 0, 2, 2, 7, 0};
        int[] second = {5, 1, 1, 2, 2, 1, 7, Sentence.NONE, 0};
        for (int i = 0; i < 3; i++) {
            Sentence.is("again(0)", x.again(0), 0);
            asKept(x, first);
            Sentence.is("again(1)", x.again(1), 1);
            asKept(x, second);
            x.hour();
            x.row(1);
        }
        Sentence.is("SEEN stays", x.about(10), 2);
        Sentence.is("THE TEXT stays", x.about(11), 2);
        Sentence.is("THE SEED stays", x.seed(0), 77);
        EarFerry atFirst = new EarFerry();
        atFirst.keep(0);
        atFirst.hammer(0);
        Sentence.is("all at 0, kept", atFirst.again(0), 0);
        Sentence.is("no HAMMERS", atFirst.about(6), 0);
    }

    private static void asKept(EarFerry x, int[] want) {
        for (int what = 1; what <= 9; what++) {
            Sentence.is("about(" + what + ")", x.about(what), want[what - 1]);
        }
    }

    private static void againUnknown() {
        Sentence.promise(31, "UNKNOWN;");
        Sentence.range("again", 0, 1, (x, slot) -> x.again(slot), Sentence.UNKNOWN);
        Sentence.refused("told first", EarFerry::new, x -> x.again(2), Sentence.UNKNOWN);
        Sentence.refused("told first", EarFerry::new, x -> x.again(-1), Sentence.UNKNOWN);
    }

    private static EarFerry oneKept() {
        EarFerry x = new EarFerry();
        x.hour();
        x.keep(1);
        x.hour();
        return x;
    }

    private static void againLate() {
        Sentence.promise(31, "LATE: none were kept.");
        Sentence.refused("again(0) at first", EarFerry::new, x -> x.again(0), Sentence.LATE);
        Sentence.refused("again(1) at first", EarFerry::new, x -> x.again(1), Sentence.LATE);
        Sentence.refused("the other one was", FoundEdges::oneKept, x -> x.again(0), Sentence.LATE);
        Sentence.is("this one was", oneKept().again(1), 1);
        EarFerry x = Sentence.busy();
        Due.text(x, "R001");
        x.river();
        Sentence.is("gone with the old river", x.again(0), Sentence.LATE);
        Sentence.is("gone with the old river", x.again(1), Sentence.LATE);
    }
}
