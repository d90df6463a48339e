/** Promises 14 to 21, sentence by sentence, at their edges. */
final class HeardEdges {
    private static final String SIX = "R001S01090S01090S01090S01090S01090S01090";

    private HeardEdges() {
    }

    static void test() {
        heard();
        heardBad();
        sure();
        sureBad();
        where();
        whereBad();
        when();
        whenBad();
        spared();
        sparedBad();
        worth();
        worthUnknown();
        worthBad();
        hammers();
        hammersBad();
        bestHours();
        bestHoursBad();
    }

    private static void heard() {
        Sentence.promise(14, "SET, as bits.");
        EarFerry x = Due.on("R001S01000S91990");
        Sentence.is("the first cell at the first hour", x.heard(0, 0), 1);
        Sentence.is("the first cell at the last hour", x.heard(0, 9), 0);
        Sentence.is("the last cell at the first hour", x.heard(9, 0), 0);
        Sentence.is("the last cell at the last hour", x.heard(9, 9), 2);
        x.hammer(9);
        x.hammer(0);
        Sentence.is("the first cell", x.heard(0, 0), 1 | 128);
        Sentence.is("the last cell", x.heard(9, 9), 2 | 64);
        EarFerry six = Due.on(SIX);
        six.hammer(0);
        six.hammer(1);
        Sentence.is("all eight", six.heard(0, 5), 255);
    }

    private static void heardBad() {
        Sentence.promise(14, "BAD: cell, hour.");
        Sentence.range("heard, cell", 0, 9, (x, cell) -> x.heard(cell, 9), Sentence.BAD);
        Sentence.range("heard, hour", 0, 9, (x, hour) -> x.heard(9, hour), Sentence.BAD);
        Sentence.refused("both", Sentence::busy, x -> x.heard(10, 10), Sentence.BAD);
    }

    private static void sure() {
        Sentence.promise(15, "SURE CELLS at an HOUR, as bits.");
        EarFerry x = Due.on("R001S01000S91990");
        Sentence.is("the first cell at the first hour", x.sure(0), Sentence.bits(0, 0));
        Sentence.is("none between", x.sure(5), 0);
        Sentence.is("the last cell at the last hour", x.sure(9), Sentence.bits(9, 9));
        Sentence.is("all", Due.on("R001S33090S43090S53090S63090S73090").sure(9), 1023);
        Sentence.is("none", new EarFerry().sure(9), 0);
    }

    private static void sureBad() {
        Sentence.promise(15, "as bits. BAD.");
        Sentence.range("sure", 0, 9, (x, hour) -> x.sure(hour), Sentence.BAD);
    }

    private static void where() {
        Sentence.promise(16, "WHERE, as bits.");
        EarFerry x = Due.on("R001S01000S91990");
        Sentence.is("the first cell", x.where(1, 0), Sentence.bits(0, 0));
        Sentence.is("the last cell", x.where(2, 9), Sentence.bits(9, 9));
        Sentence.is("nothing", x.where(0, 0), Sentence.bits(1, 9));
        Sentence.is("nothing, everywhere", x.where(0, 5), 1023);
        Sentence.is("a set that no cell has", x.where(3, 0), 0);
        Sentence.is("sounds that there are not", x.where(4, 0), 0);
        Sentence.is("hammers that there are not", x.where(1 | 64, 0), 0);
        EarFerry six = Due.on(SIX);
        six.hammer(0);
        six.hammer(1);
        Sentence.is("all eight", six.where(255, 0), Sentence.bits(0, 0));
    }

    private static void whereBad() {
        Sentence.promise(16, "BAD: set (0 .. 255), hour.");
        Sentence.range("where, set", 0, 255, (x, set) -> x.where(set, 0), Sentence.BAD);
        Sentence.range("where, hour", 0, 9, (x, hour) -> x.where(0, hour), Sentence.BAD);
        Sentence.refused("both", Sentence::busy, x -> x.where(256, 10), Sentence.BAD);
    }

    private static void when() {
        Sentence.promise(17, "WHEN, as bits.");
        EarFerry x = Due.on("R001S01000S91990");
        Sentence.is("the first hour", x.when(1, 0), Sentence.bits(0, 0));
        Sentence.is("the last hour", x.when(2, 9), Sentence.bits(9, 9));
        Sentence.is("nothing", x.when(0, 0), Sentence.bits(1, 9));
        Sentence.is("nothing, always", x.when(0, 5), 1023);
        Sentence.is("never", x.when(255, 0), 0);
        EarFerry six = Due.on(SIX);
        six.hammer(0);
        six.hammer(1);
        Sentence.is("all eight, always", six.when(255, 0), 1023);
    }

    private static void whenBad() {
        Sentence.promise(17, "BAD: set, cell.");
        Sentence.range("when, set", 0, 255, (x, set) -> x.when(set, 0), Sentence.BAD);
        Sentence.range("when, cell", 0, 9, (x, cell) -> x.when(0, cell), Sentence.BAD);
        Sentence.refused("both", Sentence::busy, x -> x.when(-1, -1), Sentence.BAD);
    }

    private static void spared() {
        Sentence.promise(18, "SPARED; NONE.");
        Sentence.is("no sounds", new EarFerry().spared(0), Sentence.NONE);
        Sentence.is("one", Due.on("R001S01090").spared(9), 0);
        Sentence.is("the last of six", Due.on("R001S09090S09090S09090S09090S09090S01090").spared(0), 5);
        EarFerry x = Due.on(SIX);
        for (int sound = 0; sound < 6; sound++) {
            x.hush(sound);
        }
        Sentence.is("all six are hushed", x.spared(0), Sentence.NONE);
        x.hush(5);
        Sentence.is("but one", x.spared(0), 5);
    }

    private static void sparedBad() {
        Sentence.promise(18, "BAD: hour.");
        Sentence.range("spared", 0, 9, (x, hour) -> x.spared(hour), Sentence.BAD);
        Sentence.refused("also where it would be NONE", EarFerry::new, x -> x.spared(10), Sentence.BAD);
    }

    private static void worthIs(EarFerry x, int sound, int hour, int above, int below) {
        Sentence.fraction("worth(" + sound + ", " + hour + ")", x.worth(sound, hour, true), x.worth(sound, hour, false),
            above, below);
    }

    private static void worth() {
        Sentence.promise(19, "WORTH.");
        EarFerry x = Due.on(SIX);
        for (int left = 6; left >= 1; left--) {
            worthIs(x, 0, 9, 1, left);
            x.hush(left - 1);
        }
        worthIs(x, 0, 9, 0, 1);
        EarFerry y = Due.on("R001S01330");
        worthIs(y, 0, 2, 0, 1);
        worthIs(y, 0, 3, 1, 1);
        worthIs(y, 0, 4, 0, 1);
        EarFerry none = Due.on("R001S09090S09090");
        none.change(4, 0);
        // 9 loud by rain 4, seems at -1: heard at 0 .. 3.
        worthIs(none, 0, 0, 0, 1);
    }

    private static void worthUnknown() {
        Sentence.promise(19, "UNKNOWN;");
        Sentence.range("worth", 0, 2, (x, sound) -> x.worth(sound, 0, true), Sentence.UNKNOWN);
        Sentence.refused("of none", EarFerry::new, x -> x.worth(0, 0, false), Sentence.UNKNOWN);
        Sentence.refused("a hammer", Sentence::busy, x -> x.worth(6, 0, true), Sentence.UNKNOWN);
        Sentence.refused("told first", Sentence::busy, x -> x.worth(3, 10, true), Sentence.UNKNOWN);
    }

    private static void worthBad() {
        Sentence.promise(19, "BAD: hour.");
        Sentence.range("worth, above", 0, 9, (x, hour) -> x.worth(0, hour, true), Sentence.BAD);
        Sentence.range("worth, below", 0, 9, (x, hour) -> x.worth(0, hour, false), Sentence.BAD);
        Sentence.range("worth of a hushed one", 0, 9, (x, hour) -> x.worth(1, hour, true), Sentence.BAD);
    }

    private static void hammers() {
        Sentence.promise(20, "FEWEST HAMMERS: how many (what = 0), the first such CELLS (1); NONE.");
        hammersAre("R001S33090S43090S53090S63090S73090", 10, 0, 0);
        hammersAre("R010", 1, 1, 0);
        hammersAre("R012", 1, 1, 9);
        hammersAre("R000", 1, 2, 1);
        hammersAre("R020S96092", 3, 2, 89);
        hammersAre("R020S96092", 4, Sentence.NONE, Sentence.NONE);
        hammersAre("R001S53090S53090S63090S63090S73090S73090", 10, 2, 34);
        hammersAre("R041", 1, Sentence.NONE, Sentence.NONE);
        EarFerry x = Due.on("R001S01550");
        Sentence.is("none at hour 5", x.hammers(5, 1, 0), 0);
        Sentence.is("two at hour 4", x.hammers(4, 1, 0), 2);
        x.hush(0);
        Sentence.is("hushed as now", x.hammers(5, 1, 0), 2);
    }

    private static void hammersAre(String river, int n, int many, int cells) {
        EarFerry x = Due.on(river);
        Sentence.is(river + " hammers(9, " + n + ", 0)", x.hammers(9, n, 0), many);
        Sentence.is(river + " hammers(9, " + n + ", 1)", x.hammers(9, n, 1), cells);
    }

    private static void hammersBad() {
        Sentence.promise(20, "BAD: hour, n, what.");
        Sentence.range("hammers, hour", 0, 9, (x, hour) -> x.hammers(hour, 1, 0), Sentence.BAD);
        Sentence.range("hammers, n", 1, 10, (x, n) -> x.hammers(0, n, 1), Sentence.BAD);
        Sentence.range("hammers, what", 0, 1, (x, what) -> x.hammers(0, 1, what), Sentence.BAD);
        Sentence.refused("all", Sentence::busy, x -> x.hammers(10, 0, 2), Sentence.BAD);
        Sentence.refused("where it would be NONE", () -> Due.on("R041"), x -> x.hammers(0, 11, 0), Sentence.BAD);
    }

    private static void bestHours() {
        Sentence.promise(21, "BEST HOURS: from which (what = 0), how many SURE CELLS (1).");
        EarFerry last = Due.on("R001S01990");
        for (int n = 1; n <= 10; n++) {
            Sentence.is("from, n " + n, last.bestHours(n, 0), 10 - n);
            Sentence.is("how many, n " + n, last.bestHours(n, 1), 1);
        }
        EarFerry first = Due.on("R001S01000");
        for (int n = 1; n <= 10; n++) {
            Sentence.is("from, n " + n, first.bestHours(n, 0), 0);
            Sentence.is("how many, n " + n, first.bestHours(n, 1), 1);
        }
        EarFerry all = Due.on("R001S33090S43090S53090S63090S73090");
        Sentence.is("ten times ten", all.bestHours(10, 1), 100);
        Sentence.is("none", new EarFerry().bestHours(10, 1), 0);
    }

    private static void bestHoursBad() {
        Sentence.promise(21, "BAD: n, what.");
        Sentence.range("bestHours, n", 1, 10, (x, n) -> x.bestHours(n, 0), Sentence.BAD);
        Sentence.range("bestHours, what", 0, 1, (x, what) -> x.bestHours(1, what), Sentence.BAD);
        Sentence.refused("both", Sentence::busy, x -> x.bestHours(0, 2), Sentence.BAD);
    }
}
