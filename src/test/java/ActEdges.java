/** Promises 8 to 13, sentence by sentence, at their edges. */
final class ActEdges {
    private ActEdges() {
    }

    static void test() {
        row();
        rowBad();
        rowLate();
        hush();
        hushUnknown();
        hammer();
        hammerBad();
        hammerFull();
        change();
        changeBad();
        changeLate();
        hour();
        undo();
        undoLate();
    }

    private static void row() {
        Sentence.promise(8, "ROWED: the SET there.");
        // 0 at 0, 1 at 9, from hour 1 on.
        EarFerry x = Due.on("R101S01090S91190");
        Sentence.is("to 0", x.row(2), 1);
        Sentence.is("to 1", x.row(1), 0);
        x.row(2);
        for (int cell = 1; cell <= 8; cell++) {
            Sentence.is("to " + cell, x.row(1), 0);
        }
        Sentence.is("to 9 at hour 0", x.row(1), 0);
        x.hour();
        Sentence.is("to 8", x.row(2), 0);
        Sentence.is("to 9 at hour 1", x.row(1), 2);
        x.hammer(8);
        x.hammer(7);
        Sentence.is("to 8 with hammers", x.row(2), 64 | 128);
        Sentence.is("to 9 with hammers", x.row(1), 2 | 64 | 128);
        x.hush(1);
        x.row(2);
        Sentence.is("to 9, hushed", x.row(1), 64 | 128);
        x.change(2, 1);
        x.row(2);
        Sentence.is("to 9 by rain", x.row(1), 0);
    }

    private static void rowBad() {
        Sentence.promise(8, "BAD: way (1 on, 2 back);");
        Sentence.range("row", 1, 2, (x, way) -> x.row(way), Sentence.BAD);
        Sentence.refused("row(0) at 0", EarFerry::new, x -> x.row(0), Sentence.BAD);
        Sentence.refused("row(3) at 9", () -> Due.on("R901"), x -> x.row(3), Sentence.BAD);
    }

    private static void rowLate() {
        Sentence.promise(8, "LATE: the river ends.");
        Sentence.refused("back at 0", EarFerry::new, x -> x.row(2), Sentence.LATE);
        Sentence.refused("on at 9", () -> Due.on("R901"), x -> x.row(1), Sentence.LATE);
        EarFerry x = new EarFerry();
        for (int i = 0; i < 9; i++) {
            Sentence.is("on", x.row(1), 0);
        }
        Sentence.is("on at 9", x.row(1), Sentence.LATE);
        for (int i = 0; i < 9; i++) {
            Sentence.is("back", x.row(2), 0);
        }
        Sentence.is("back at 0", x.row(2), Sentence.LATE);
        Sentence.is("it stays", x.about(1), 0);
    }

    private static void hush() {
        Sentence.promise(9, "HUSHED: 1 if it is then, 0.");
        EarFerry x = Due.on("R001S01090S01090S01090S01090S01090S01090");
        for (int sound = 0; sound < 6; sound++) {
            Sentence.is("hush(" + sound + ")", x.hush(sound), 1);
            Sentence.is("hush(" + sound + ") again", x.hush(sound), 0);
            Sentence.is("hush(" + sound + ") again", x.hush(sound), 1);
            Sentence.is("about(5)", x.about(5), (2 << sound) - 1);
        }
        Sentence.is("ACTS", x.about(9), 14);
        EarFerry y = Due.on("R001S01550");
        Sentence.is("one that is not there at this hour", y.hush(0), 1);
        Sentence.is("is hushed at its hour", y.heard(0, 5), 0);
    }

    private static void hushUnknown() {
        Sentence.promise(9, "UNKNOWN.");
        Sentence.range("hush", 0, 2, (x, sound) -> x.hush(sound), Sentence.UNKNOWN);
        Sentence.refused("of none", EarFerry::new, x -> x.hush(0), Sentence.UNKNOWN);
        Sentence.refused("a hammer", Sentence::busy, x -> x.hush(6), Sentence.UNKNOWN);
        Sentence.refused("the second hammer", Sentence::busy, x -> x.hush(7), Sentence.UNKNOWN);
        Sentence.refused("32: bit 0 by a shift", Sentence::busy, x -> x.hush(32), Sentence.UNKNOWN);
    }

    private static void hammer() {
        Sentence.promise(10, "HAMMERED: how many HAMMERS there are.");
        for (int cell = 0; cell <= 9; cell++) {
            EarFerry x = new EarFerry();
            Sentence.is("hammer(" + cell + ")", x.hammer(cell), 1);
            Sentence.is("its cell", x.about(7), cell);
            Sentence.is("one more", x.hammer(9 - cell), 2);
            Sentence.is("its cell", x.about(8), 9 - cell);
            Sentence.is("gone", x.hammer(cell), 1);
            Sentence.is("the other one is first", x.about(7), 9 - cell);
            Sentence.is("none is second", x.about(8), Sentence.NONE);
            Sentence.is("gone", x.hammer(9 - cell), 0);
            Sentence.is("none is first", x.about(7), Sentence.NONE);
            Sentence.is("ACTS", x.about(9), 4);
        }
    }

    private static void hammerBad() {
        Sentence.promise(10, "BAD: cell;");
        Sentence.range("hammer", 0, 9, (x, cell) -> x.hammer(cell), Sentence.BAD);
        Sentence.refused("10 is no cell", EarFerry::new, x -> x.hammer(10), Sentence.BAD);
        Sentence.refused("-1 is no cell", EarFerry::new, x -> x.hammer(-1), Sentence.BAD);
    }

    private static EarFerry twoHammers() {
        EarFerry x = new EarFerry();
        x.hammer(0);
        x.hammer(9);
        return x;
    }

    private static void hammerFull() {
        Sentence.promise(10, "FULL: 2 are elsewhere.");
        for (int cell = 1; cell <= 8; cell++) {
            int at = cell;
            Sentence.refused("hammer(" + cell + ")", ActEdges::twoHammers, x -> x.hammer(at), Sentence.FULL);
        }
        Sentence.is("one of the two is not", twoHammers().hammer(0), 1);
        Sentence.is("nor the other one", twoHammers().hammer(9), 1);
        EarFerry x = twoHammers();
        x.hammer(0);
        Sentence.is("1 is elsewhere", x.hammer(5), 2);
        Sentence.is("2 are", x.hammer(0), Sentence.FULL);
    }

    private static void change() {
        Sentence.promise(11, "CHANGED: 10 times RAIN and WIND as they were.");
        EarFerry x = Due.on("R042");
        Sentence.is("from 4, 2", x.change(4, 1), 42);
        Sentence.is("from 4, 1", x.change(0, 1), 41);
        Sentence.is("from 0, 1", x.change(0, 0), 1);
        Sentence.is("from 0, 0", x.change(4, 0), 0);
        Sentence.is("from 4, 0", x.change(0, 2), 40);
        Sentence.is("from 0, 2", x.change(4, 2), 2);
        Sentence.is("ACTS", x.about(9), 6);
    }

    private static void changeBad() {
        Sentence.promise(11, "BAD: rain, wind;");
        Sentence.range("change, rain", 0, 4, (x, rain) -> x.change(rain, 0), Sentence.BAD);
        Sentence.range("change, wind", 0, 2, (x, wind) -> x.change(0, wind), Sentence.BAD);
        Sentence.refused("both", Sentence::busy, x -> x.change(5, 3), Sentence.BAD);
        Sentence.refused("the rain as it is, a bad wind", Sentence::busy, x -> x.change(1, 3), Sentence.BAD);
        Sentence.refused("a bad rain, the wind as it is", Sentence::busy, x -> x.change(-1, 2), Sentence.BAD);
    }

    private static void changeLate() {
        Sentence.promise(11, "LATE: they are so.");
        for (int weather = 0; weather < 15; weather++) {
            int rain = weather / 3;
            int wind = weather % 3;
            Sentence.refused("change(" + rain + ", " + wind + ")", () -> Due.on("R0" + rain + wind),
                x -> x.change(rain, wind), Sentence.LATE);
        }
        Sentence.is("the rain alone is so", Sentence.busy().change(1, 1), 12);
        Sentence.is("the wind alone is so", Sentence.busy().change(2, 2), 12);
    }

    private static void hour() {
        Sentence.promise(12, "AN HOUR: THE HOUR then.");
        EarFerry x = new EarFerry();
        for (int i = 1; i <= 30; i++) {
            Sentence.is("hour()", x.hour(), i % 10);
            Sentence.is("ACTS", x.about(9), Math.min(14, i));
        }
    }

    private static void undo() {
        Sentence.promise(13, "The last ACT is undone: how many are left.");
        EarFerry x = new EarFerry();
        for (int i = 0; i < 14; i++) {
            x.hour();
        }
        for (int left = 13; left >= 0; left--) {
            Sentence.is("undo()", x.undo(), left);
            Sentence.is("THE HOUR", x.about(2), left % 10);
        }
        EarFerry first = twoHammers();
        first.hammer(0);
        Sentence.is("a hammer that was gone", first.undo(), 2);
        Sentence.is("is the first one again", first.about(7), 0);
        Sentence.is("before the other one", first.about(8), 9);
        first.hammer(9);
        first.undo();
        Sentence.is("the second one is second", first.about(8), 9);
    }

    private static void undoLate() {
        Sentence.promise(13, "LATE: there is none.");
        Sentence.refused("at first", EarFerry::new, x -> x.undo(), Sentence.LATE);
        Sentence.refused("on a new river", () -> Due.on("R501S01090"), x -> x.undo(), Sentence.LATE);
        Sentence.refused("when one went on", () -> wentOn(), x -> x.undo(), Sentence.LATE);
        EarFerry refused = new EarFerry();
        refused.row(2);
        refused.hammer(10);
        refused.change(0, 1);
        refused.hush(0);
        Sentence.is("what was refused is no ACT", refused.undo(), Sentence.LATE);
        EarFerry x = new EarFerry();
        for (int i = 0; i < 15; i++) {
            x.hour();
        }
        for (int i = 0; i < 14; i++) {
            x.undo();
        }
        Sentence.is("the 15th", x.undo(), Sentence.LATE);
        Sentence.is("the first one stays", x.about(2), 1);
    }

    private static EarFerry wentOn() {
        EarFerry x = Sentence.busy();
        x.again(0);
        return x;
    }
}
