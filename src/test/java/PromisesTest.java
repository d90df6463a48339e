import java.util.ArrayList;
import java.util.List;

/** Each promise by itself: ordinary inputs, the edges that the document names, wrong inputs. Worked out by hand. */
public final class PromisesTest {
    private static final int[] OUTSIDE = {-1, Integer.MIN_VALUE, Integer.MAX_VALUE};
    private static final Due DUE = new Due();

    public static void main(String[] args) {
        aNewObject();
        write();
        wipe();
        fault();
        river();
        about();
        sound();
        kinds();
        row();
        hush();
        hammer();
        change();
        hour();
        undo();
        undoOfEachAct();
        heard();
        sure();
        where();
        when();
        spared();
        worth();
        hammers();
        bestHours();
        grounded();
        see();
        unsee();
        weather();
        rivals();
        chance();
        seed();
        days();
        keep();
        again();
        whereAllIsSure();
        whatIsRefusedChangesNothing();
        whatIsAskedChangesNothing();
        DUE.end();
    }

    private static void is(String call, long got, long want) {
        DUE.is(call, got, want);
    }

    private static void aNewObject() {
        EarFerry x = new EarFerry();
        int[] first = {0, 0, 0, 0, 1, 0, 0, -9, -9, 0, 0, 0};
        for (int what = 0; what <= 11; what++) {
            is("1 about(" + what + ")", x.about(what), first[what]);
        }
        for (int cell = 0; cell < 10; cell++) {
            for (int h = 0; h < 10; h++) {
                is("1 heard", x.heard(cell, h), 0);
            }
        }
        is("1 seed", x.seed(0), 0);
        is("1 again(0)", x.again(0), -3);
        is("1 again(1)", x.again(1), -3);
        is("1 undo()", x.undo(), -3);
        is("1 hush(0)", x.hush(0), -1);
        is("1 sound(0, 0)", x.sound(0, 0), -1);
    }

    private static void write() {
        EarFerry x = new EarFerry();
        is("2 write(-1)", x.write(-1), -2);
        is("2 write(256)", x.write(256), -2);
        is("2 write(MIN)", x.write(Integer.MIN_VALUE), -2);
        is("2 write(MAX)", x.write(Integer.MAX_VALUE), -2);
        is("2 write(0)", x.write(0), 1);
        is("2 write(255)", x.write(255), 2);
        for (int i = 3; i <= 40; i++) {
            is("2 write", x.write(82), i);
        }
        is("2 write full", x.write(82), -4);
        is("2 write bad is told before full", x.write(256), -2);
        is("2 length", x.about(11), 40);
    }

    private static void wipe() {
        EarFerry x = new EarFerry();
        is("3 wipe()", x.wipe(), 0);
        Due.text(x, "R401S13090");
        is("3 wipe()", x.wipe(), 10);
        is("3 about(11)", x.about(11), 0);
        is("3 fault()", x.fault(), 0);
        is("3 write", x.write('R'), 1);
        EarFerry y = Due.on("R401S13090");
        y.wipe();
        is("3 the river stays", y.about(0), 1);
    }

    private static void fault() {
        EarFerry x = new EarFerry();
        Object[][] rows = {
            {"", 0}, {"R", 1}, {"r", 0}, {"S", 0}, {"R4", 2}, {"R40", 3}, {"R401", -9}, {"R942", -9}, {"R/01", 1},
            {"R:01", 1}, {"R050", 2}, {"R0/0", 2}, {"R003", 3}, {"R00/", 3}, {"R001S", 5}, {"R001R", 4},
            {"R001s", 4}, {"R001S9", 6}, {"R001S:", 5}, {"R001S/", 5}, {"R001S00", 6}, {"R001S0:", 6},
            {"R001S01", 7}, {"R001S09", 7}, {"R001S01/", 7}, {"R001S01:", 7}, {"R001S015", 8}, {"R001S0154", 8},
            {"R001S0155", 9}, {"R001S0159", 9}, {"R001S015:", 8}, {"R001S01594", 9}, {"R001S0159/", 9},
            {"R001S01593", -9}, {"R001S01590", -9}, {"R001S01993", -9}, {"R001S0198", 8}, {"R001S01593S", 11},
            {"R001S01593T", 10}, {"R001S01593SA", 11}, {"X001S01594", 0}, {"RX0XS", 1}, {"R001S0154S", 8}
        };
        for (Object[] row : rows) {
            Due.text(x, (String) row[0]);
            is("4 fault of " + row[0], x.fault(), (Integer) row[1]);
        }
        Due.text(x, "R001S01000S01000S01000S01000S01000S0100");
        is("4 fault, one byte short", x.fault(), 39);
        x.write('4');
        is("4 fault in the last byte", x.fault(), 39);
        x.wipe();
        x.write('R');
        x.write(48 + 256 - 256);
        x.write(0);
        is("4 fault by byte 0", x.fault(), 2);
    }

    private static void river() {
        EarFerry x = new EarFerry();
        is("5 river()", x.river(), -3);
        Due.text(x, "R32");
        is("5 river() not at its end", x.river(), -3);
        Due.text(x, "R321");
        is("5 river()", x.river(), 0);
        is("5 ferry", x.about(1), 3);
        Due.text(x, "R720S13090S84251");
        is("5 river()", x.river(), 2);
        is("5 ferry", x.about(1), 7);
        is("5 rain", x.about(3), 2);
        is("5 wind", x.about(4), 0);
        is("5 the text stays", x.about(11), 16);
        x.row(1);
        x.hush(1);
        x.hammer(4);
        x.hammer(5);
        x.change(1, 1);
        x.hour();
        x.keep(0);
        x.keep(1);
        x.see(0, 1, 2, true);
        x.seed(77);
        Due.text(x, "R9");
        String before = Due.look(x);
        is("5 river() with a fault", x.river(), -3);
        DUE.holds("5 nothing changed", before.equals(Due.look(x)));
        is("5 kept still", x.again(0), 1);
        x.hour();
        Due.text(x, "R112S13090");
        is("5 river()", x.river(), 1);
        int[] now = {1, 1, 0, 1, 2, 0, 0, -9, -9, 0, 1, 10};
        for (int what = 0; what <= 11; what++) {
            is("5 about(" + what + ")", x.about(what), now[what]);
        }
        is("5 kept is gone", x.again(0), -3);
        is("5 kept is gone", x.again(1), -3);
        is("5 undo()", x.undo(), -3);
        is("5 the seed stays", x.seed(0), 77);
    }

    private static void about() {
        EarFerry x = Due.on("R432S13090S84251S53693");
        x.row(2);
        x.hush(0);
        x.hush(2);
        x.hammer(9);
        x.hour();
        x.hour();
        x.see(0, 1, 2, true);
        x.see(0, 1, 2, true);
        int[] due = {3, 3, 2, 3, 2, 5, 1, 9, -9, 6, 2, 22};
        for (int what = 0; what <= 11; what++) {
            is("6 about(" + what + ")", x.about(what), due[what]);
        }
        x.hammer(0);
        is("6 about(6)", x.about(6), 2);
        is("6 about(7)", x.about(7), 9);
        is("6 about(8)", x.about(8), 0);
        is("6 about(12)", x.about(12), -2);
        for (int what : OUTSIDE) {
            is("6 about(" + what + ")", x.about(what), -2);
        }
    }

    private static void sound() {
        EarFerry x = Due.on("R001S53271S89363");
        int[][] due = {{5, 3, 2, 7, 1}, {8, 9, 3, 6, 3}};
        for (int s = 0; s < 2; s++) {
            for (int what = 0; what < 5; what++) {
                is("7 sound(" + s + ", " + what + ")", x.sound(s, what), due[s][what]);
            }
        }
        is("7 not yet", x.sound(0, 5), 0);
        x.hour();
        x.hour();
        is("7 from its hour on", x.sound(0, 5), 0b0011111000);
        is("7 not yet", x.sound(1, 5), 0);
        x.hour();
        is("7 all along", x.sound(1, 5), 0b1111111111);
        x.hush(0);
        is("7 hushed", x.sound(0, 5), 0);
        is("7 hushed, its cell", x.sound(0, 0), 5);
        x.hush(0);
        for (int i = 0; i < 4; i++) {
            x.hour();
        }
        is("7 to its hour", x.sound(0, 5), 0b0011111000);
        is("7 gone", x.sound(1, 5), 0);
        x.hour();
        is("7 gone", x.sound(0, 5), 0);
        is("7 bad", x.sound(0, 6), -2);
        is("7 bad", x.sound(0, -1), -2);
        is("7 unknown", x.sound(2, 0), -1);
        is("7 unknown first", x.sound(2, 9), -1);
        is("7 unknown", x.sound(-1, 0), -1);
        x.hammer(3);
        is("7 a hammer is none of them", x.sound(6, 0), -1);
        for (int s : OUTSIDE) {
            is("7 unknown", x.sound(s, 0), -1);
        }
    }

    /** By rain 1 and wind 2 (one on), at cell 4, 4 loud. */
    private static void kinds() {
        EarFerry x = Due.on("R012S44090S44091S44092S44093");
        is("7 plain: 3 cells about 5", x.sound(0, 5), bits(3, 7));
        is("7 deep: 4 about 5", x.sound(1, 5), bits(2, 8));
        is("7 shrill: 2 about 5", x.sound(2, 5), bits(4, 6));
        is("7 water: 3 about 4", x.sound(3, 5), bits(2, 6));
        x.change(0, 0);
        is("7 plain about 3", x.sound(0, 5), bits(0, 6));
        is("7 water about 4", x.sound(3, 5), bits(1, 7));
        x.change(2, 1);
        is("7 plain", x.sound(0, 5), bits(3, 5));
        is("7 deep", x.sound(1, 5), bits(1, 7));
        is("7 shrill", x.sound(2, 5), 0);
        EarFerry y = Due.on("R000S01090S91090S02090");
        is("7 seems to be at -1", y.sound(0, 5), 0);
        is("7 seems to be at 8", y.sound(1, 5), bits(8, 8));
        is("7 seems to be at -1, 2 loud", y.sound(2, 5), bits(0, 0));
        y.change(0, 2);
        is("7 seems to be at 1", y.sound(0, 5), bits(1, 1));
        is("7 seems to be at 10", y.sound(1, 5), 0);
    }

    private static int bits(int first, int last) {
        int all = 0;
        for (int i = first; i <= last; i++) {
            all |= 1 << i;
        }
        return all;
    }

    private static void row() {
        EarFerry x = Due.on("R801S92090S71110");
        is("8 row(1)", x.row(1), 1);
        is("8 about(1)", x.about(1), 9);
        is("8 row(1) at the end", x.row(1), -3);
        is("8 row(0)", x.row(0), -2);
        is("8 row(3) bad is told before late", x.row(3), -2);
        is("8 row(2)", x.row(2), 1);
        is("8 acts", x.about(9), 2);
        x.hammer(7);
        x.hour();
        is("8 the set there", x.row(2), 2 | 64);
        EarFerry y = new EarFerry();
        is("8 row(2) at 0", y.row(2), -3);
        is("8 no act", y.about(9), 0);
        for (int i = 1; i <= 9; i++) {
            is("8 row(1)", y.row(1), 0);
            is("8 about(1)", y.about(1), i);
        }
        is("8 row(1)", y.row(1), -3);
        for (int way : OUTSIDE) {
            is("8 row(" + way + ")", y.row(way), -2);
        }
    }

    private static void hush() {
        EarFerry x = Due.on("R001S59090S59090");
        is("9 hush(1)", x.hush(1), 1);
        is("9 about(5)", x.about(5), 2);
        is("9 heard", x.heard(5, 0), 1);
        is("9 hush(0)", x.hush(0), 1);
        is("9 about(5)", x.about(5), 3);
        is("9 hush(1)", x.hush(1), 0);
        is("9 about(5)", x.about(5), 1);
        is("9 acts", x.about(9), 3);
        is("9 hush(2)", x.hush(2), -1);
        x.hammer(1);
        is("9 hush(6)", x.hush(6), -1);
        for (int s : OUTSIDE) {
            is("9 hush(" + s + ")", x.hush(s), -1);
        }
        is("9 acts", x.about(9), 4);
    }

    private static void hammer() {
        EarFerry x = new EarFerry();
        is("10 hammer(4)", x.hammer(4), 1);
        is("10 3 loud", x.heard(2, 0), 64);
        is("10 3 loud", x.heard(6, 9), 64);
        is("10 3 loud", x.heard(1, 5), 0);
        is("10 3 loud", x.heard(7, 5), 0);
        is("10 hammer(0)", x.hammer(0), 2);
        is("10 both", x.heard(2, 0), 192);
        is("10 the second", x.heard(0, 0), 128);
        is("10 hammer(5)", x.hammer(5), -4);
        is("10 hammer(10)", x.hammer(10), -2);
        is("10 acts", x.about(9), 2);
        is("10 the first is gone", x.hammer(4), 1);
        is("10 the other is 6 then", x.heard(0, 0), 64);
        is("10 about(7)", x.about(7), 0);
        is("10 about(8)", x.about(8), -9);
        is("10 hammer(9)", x.hammer(9), 2);
        is("10 the second is gone", x.hammer(9), 1);
        is("10 about(7)", x.about(7), 0);
        is("10 hammer(0)", x.hammer(0), 0);
        is("10 about(7)", x.about(7), -9);
        x.hammer(9);
        is("10 rain", x.change(2, 0), 1);
        is("10 by rain and wind", x.heard(8, 0), 64);
        is("10 by rain and wind", x.heard(9, 0), 0);
        for (int cell : OUTSIDE) {
            is("10 hammer(" + cell + ")", x.hammer(cell), -2);
        }
    }

    private static void change() {
        EarFerry x = Due.on("R432");
        is("11 they are so", x.change(3, 2), -3);
        is("11 change(0, 2)", x.change(0, 2), 32);
        is("11 change(0, 0)", x.change(0, 0), 2);
        is("11 change(4, 0)", x.change(4, 0), 0);
        is("11 change(4, 1)", x.change(4, 1), 40);
        is("11 rain", x.about(3), 4);
        is("11 wind", x.about(4), 1);
        is("11 bad", x.change(5, 1), -2);
        is("11 bad", x.change(4, 3), -2);
        is("11 bad", x.change(4, -1), -2);
        for (int v : OUTSIDE) {
            is("11 bad", x.change(v, 0), -2);
            is("11 bad", x.change(0, v), -2);
        }
        is("11 acts", x.about(9), 4);
    }

    private static void hour() {
        EarFerry x = new EarFerry();
        for (int i = 1; i <= 23; i++) {
            is("12 hour()", x.hour(), i % 10);
            is("12 acts", x.about(9), Math.min(i, 14));
        }
        is("12 about(2)", x.about(2), 3);
    }

    private static void undo() {
        EarFerry x = Due.on("R501S59090");
        is("13 none", x.undo(), -3);
        for (int i = 0; i < 4; i++) {
            x.row(1);
        }
        for (int i = 0; i < 12; i++) {
            x.hush(0);
        }
        is("13 acts", x.about(9), 14);
        for (int left = 13; left >= 0; left--) {
            is("13 undo()", x.undo(), left);
        }
        is("13 the first two are forgotten", x.about(1), 7);
        is("13 none", x.undo(), -3);
        is("13 row goes on", x.row(2), 1);
        is("13 acts", x.about(9), 1);
    }

    private static void undoOfEachAct() {
        EarFerry x = Due.on("R401S59090S28390");
        x.hammer(7);
        x.hammer(2);
        List<String> looks = new ArrayList<>();
        int[] acts = {1, 3, 5, 6, 4, 6, 2, 5, 4, 3, 7, 8};
        for (int act : acts) {
            looks.add(Due.look(x));
            doAct(x, act);
        }
        for (int i = acts.length - 1; i >= 0; i--) {
            is("13 undo()", x.undo(), i + 2);
            DUE.holds("13 undo of act " + acts[i], looks.get(i).equals(Due.look(x)));
        }
        is("13 hammer(7) was undone", x.about(7), 7);
        is("13 and is first", x.about(8), 2);
    }

    private static void doAct(EarFerry x, int act) {
        switch (act) {
            case 1: x.row(1); break;
            case 2: x.row(2); break;
            case 3: x.hush(1); break;
            case 4: x.hammer(7); break;
            case 5: x.change(1 + x.about(3), 2); break;
            case 6: x.hour(); break;
            case 7: x.hammer(2); break;
            default: x.hammer(0); break;
        }
    }

    private static void heard() {
        EarFerry x = Due.on("R001S03090S94250");
        is("14 heard(2, 0)", x.heard(2, 0), 1);
        is("14 heard(3, 0)", x.heard(3, 0), 0);
        is("14 heard(6, 1)", x.heard(6, 1), 0);
        is("14 heard(6, 2)", x.heard(6, 2), 2);
        is("14 heard(6, 5)", x.heard(6, 5), 2);
        is("14 heard(6, 6)", x.heard(6, 6), 0);
        x.hammer(1);
        x.hammer(7);
        is("14 heard(2, 3)", x.heard(2, 3), 1 | 64);
        is("14 heard(9, 3)", x.heard(9, 3), 2 | 128);
        is("14 heard(10, 0)", x.heard(10, 0), -2);
        is("14 heard(0, 10)", x.heard(0, 10), -2);
        for (int v : OUTSIDE) {
            is("14 bad", x.heard(v, 0), -2);
            is("14 bad", x.heard(0, v), -2);
        }
    }

    private static void sure() {
        EarFerry x = Due.on("R001S01090S92290S94390");
        is("15 hour 0: 0 alone", x.sure(0), 1);
        is("15 hour 2: 0 alone", x.sure(2), 1);
        x.hush(1);
        is("15 hour 3", x.sure(3), 1);
        x.hush(1);
        x.hush(2);
        x.hammer(7);
        is("15 hour 2: 8 and 9 differ by the hammer", x.sure(2), 1);
        x.hammer(7);
        x.hammer(6);
        is("15 hour 2: 8 hears both, 9 one", x.sure(2), bits(0, 0) | bits(8, 9));
        is("15 bad", x.sure(10), -2);
        for (int v : OUTSIDE) {
            is("15 bad", x.sure(v), -2);
        }
    }

    private static void where() {
        EarFerry x = Due.on("R001S03090S94250");
        is("16 where(1, 0)", x.where(1, 0), bits(0, 2));
        is("16 where(0, 0)", x.where(0, 0), bits(3, 9));
        is("16 where(2, 0)", x.where(2, 0), 0);
        is("16 where(2, 2)", x.where(2, 2), bits(6, 9));
        is("16 where(255, 2)", x.where(255, 2), 0);
        x.hammer(0);
        x.hammer(3);
        is("16 with hammers", x.where(1 | 64 | 128, 0), bits(1, 2));
        is("16 bad", x.where(256, 0), -2);
        is("16 bad", x.where(0, 10), -2);
        for (int v : OUTSIDE) {
            is("16 bad", x.where(v, 0), -2);
            is("16 bad", x.where(0, v), -2);
        }
    }

    private static void when() {
        EarFerry x = Due.on("R001S53270S54491");
        is("17 when(0, 5)", x.when(0, 5), bits(0, 1));
        is("17 when(1, 5)", x.when(1, 5), bits(2, 3));
        is("17 when(3, 5)", x.when(3, 5), bits(4, 7));
        is("17 when(2, 5)", x.when(2, 5), bits(8, 9));
        is("17 when(0, 0)", x.when(0, 0), 1023);
        is("17 when(255, 5)", x.when(255, 5), 0);
        is("17 bad", x.when(256, 5), -2);
        is("17 bad", x.when(0, 10), -2);
        for (int v : OUTSIDE) {
            is("17 bad", x.when(v, 0), -2);
            is("17 bad", x.when(0, v), -2);
        }
    }

    private static void spared() {
        EarFerry x = Due.on("R001S91090S01090S01090");
        is("18 without 0 only one is sure", x.spared(0), 0);
        x.hush(0);
        is("18 of like ones the least, no hushed one", x.spared(0), 1);
        x.hush(1);
        is("18 the last one", x.spared(0), 2);
        x.hush(2);
        is("18 none", x.spared(0), -9);
        x.hammer(3);
        is("18 a hammer is none", x.spared(0), -9);
        EarFerry y = Due.on("R001S01120S92230");
        is("18 no one is there: the least", y.spared(0), 0);
        EarFerry z = Due.on("R001S02090S01090");
        is("18 without 1 none is sure, without 0 one", z.spared(0), 1);
        is("18 bad", x.spared(10), -2);
        for (int v : OUTSIDE) {
            is("18 bad", x.spared(v), -2);
        }
    }

    private static void fraction(String call, int above, int below, int wantAbove, int wantBelow) {
        is(call + ", above", above, wantAbove);
        is(call + ", below", below, wantBelow);
    }

    private static void worth(EarFerry x, int sound, int hour, int above, int below) {
        fraction("19 worth(" + sound + ", " + hour + ")", x.worth(sound, hour, true), x.worth(sound, hour, false),
            above, below);
    }

    private static void worth() {
        EarFerry x = Due.on("R001S01090S02090");
        // Alone 0 makes 0 sure; 1 makes none; both make 0 and 1 sure.
        worth(x, 0, 0, 3, 2);
        worth(x, 1, 0, 1, 2);
        x.hush(0);
        worth(x, 0, 0, 0, 1);
        worth(x, 1, 0, 0, 1);
        x.hush(0);
        x.hush(1);
        worth(x, 0, 0, 1, 1);
        // The hammer alone makes none sure; 0 then makes 0 sure.
        x.hammer(0);
        worth(x, 0, 0, 1, 1);
        EarFerry y = Due.on("R001S52090S51290");
        worth(y, 1, 0, 0, 1);
        worth(y, 1, 2, 1, 1);
        // Hammers at 0 and 2: 0, 1, 2 hear both, 3, 4 one. Sound 0 at 4 alone: 4 is sure and so is 3.
        EarFerry z = Due.on("R001S41090");
        z.hammer(0);
        z.hammer(2);
        worth(z, 0, 0, 2, 1);
        EarFerry w = Due.on("R001S02090S11090S02090");
        // v: {0} or {2} none, {1} cell 1, {0,1}, {1,2} and all 0 and 1. Orders: 0 adds 1 right behind 1, or 0.
        worth(w, 0, 0, 1, 6);
        worth(w, 1, 0, 5, 3);
        worth(w, 2, 0, 1, 6);
        EarFerry six = Due.on("R001S01090S01090S01090S01090S01090S01090");
        for (int s = 0; s < 6; s++) {
            worth(six, s, 0, 1, 6);
        }
        six.hush(2);
        worth(six, 5, 0, 1, 5);
        is("19 unknown", w.worth(3, 0, true), -1);
        is("19 unknown first", w.worth(3, 10, true), -1);
        is("19 bad", w.worth(0, 10, true), -2);
        w.hush(0);
        is("19 bad, hushed", w.worth(0, 10, true), -2);
        for (int v : OUTSIDE) {
            is("19 unknown", w.worth(v, 0, true), -1);
            is("19 bad", w.worth(0, v, false), -2);
        }
        worthIsNeverLessThanNothing();
    }

    /** A sound can only part cells, never join them: its worth is 0 or more. */
    private static void worthIsNeverLessThanNothing() {
        EarFerry x = Due.on("R001S06090S19090");
        x.hammer(4);
        // Sound 0 is heard at 0 .. 5, the hammer at 2 .. 6: 6 alone hears only the hammer.
        is("19 one is sure", x.sure(0), bits(6, 6));
        worth(x, 0, 0, 1, 1);
        worth(x, 1, 0, 0, 1);
        EarFerry y = Due.on("R001S64090S01090");
        worth(y, 0, 0, 0, 1);
        worth(y, 1, 0, 1, 1);
    }

    private static void hammers() {
        EarFerry x = Due.on("R001S01090");
        is("20 none is needed", x.hammers(0, 1, 0), 0);
        is("20 no cells", x.hammers(0, 1, 1), 0);
        // One hammer leaves two or more alike on both its sides; at 0 (0 .. 2) and 1 (0 .. 3) cell 3 is alone.
        is("20 how many", x.hammers(0, 2, 0), 2);
        is("20 which", x.hammers(0, 2, 1), 1);
        // Heard at 0 and 1: a hammer at 0 parts 2 from them, one at 3 (1 .. 5) parts 0 from 1.
        EarFerry z = Due.on("R001S02090");
        is("20 one", z.hammers(0, 1, 0), 1);
        is("20 at cell 0", z.hammers(0, 1, 1), 0);
        is("20 one", z.hammers(0, 2, 0), 1);
        is("20 at cell 3", z.hammers(0, 2, 1), 3);
        is("20 by trying each", z.hammers(0, 2, 1), firstHammer(z, 2));
        z.change(0, 2);
        // The sound is heard at 0 .. 2, hammers at 0 and 1 at 0 .. 3 and 0 .. 4: 3 and 4 are alone.
        is("20 by wind", z.hammers(0, 2, 0), 2);
        is("20 by wind", z.hammers(0, 2, 1), 1);
        EarFerry y = new EarFerry();
        is("20 two", y.hammers(0, 1, 0), 2);
        is("20 NONE", y.hammers(0, 10, 0), -9);
        is("20 NONE", y.hammers(0, 10, 1), -9);
        // At 0 (0 .. 2) and 3 (1 .. 5): 0 is alone. At 0 and 1 (0 .. 3): 3 is alone: first.
        is("20 first pair", y.hammers(0, 1, 1), 1);
        int was = y.hammers(0, 2, 1);
        y.hammer(7);
        y.hammer(8);
        is("20 those of now do not count", y.hammers(0, 2, 1), was);
        is("20 nothing changes", y.about(7), 7);
        is("20 bad", y.hammers(10, 1, 0), -2);
        is("20 bad", y.hammers(0, 0, 0), -2);
        is("20 bad", y.hammers(0, 11, 0), -2);
        is("20 bad", y.hammers(0, 1, 2), -2);
        for (int v : OUTSIDE) {
            is("20 bad", y.hammers(v, 1, 0), -2);
            is("20 bad", y.hammers(0, v, 0), -2);
            is("20 bad", y.hammers(0, 1, v), -2);
        }
    }

    /** The first cell where a hammer makes n cells sure at hour 0, by trying each. */
    private static int firstHammer(EarFerry x, int n) {
        for (int cell = 0; cell < 10; cell++) {
            x.hammer(cell);
            int sureThen = Integer.bitCount(x.sure(0));
            x.undo();
            if (sureThen >= n) {
                return cell;
            }
        }
        return -9;
    }

    private static void bestHours() {
        // Sure cells by hour: 1 at 3 .. 4, 2 at 8 .. 9, 2 at 0.
        EarFerry x = Due.on("R001S01340S01890S91890S01000S91000");
        is("21 from", x.bestHours(1, 0), 0);
        is("21 how many", x.bestHours(1, 1), 2);
        is("21 over midnight", x.bestHours(2, 0), 8);
        is("21 how many", x.bestHours(2, 1), 4);
        is("21 over midnight", x.bestHours(3, 0), 8);
        is("21 how many", x.bestHours(3, 1), 6);
        is("21 all", x.bestHours(10, 0), 0);
        is("21 all", x.bestHours(10, 1), 8);
        is("21 seven from 8", x.bestHours(7, 0), 8);
        is("21 seven from 8", x.bestHours(7, 1), 8);
        is("21 six from 8", x.bestHours(6, 0), 8);
        is("21 six from 8", x.bestHours(6, 1), 7);
        x.hour();
        is("21 now does not count", x.bestHours(3, 0), 8);
        is("21 bad", x.bestHours(0, 0), -2);
        is("21 bad", x.bestHours(11, 0), -2);
        is("21 bad", x.bestHours(1, 2), -2);
        for (int v : OUTSIDE) {
            is("21 bad", x.bestHours(v, 0), -2);
            is("21 bad", x.bestHours(1, v), -2);
        }
    }

    private static void grounded() {
        EarFerry x = Due.on("R001S03090S94250");
        // At 5 nothing is heard; at 1 sound 0: whistled 2 loud it is heard at 5 from 4 .. 6.
        is("22 grounded", x.grounded(0, 5, 1, 0, 2), bits(4, 6));
        is("22 1 loud", x.grounded(0, 5, 1, 0, 1), bits(5, 5));
        is("22 9 loud", x.grounded(0, 5, 1, 0, 9), 1023);
        is("22 s is in the set of g", x.grounded(0, 1, 1, 0, 2), 0);
        is("22 not the set of t", x.grounded(0, 5, 6, 0, 2), 0);
        is("22 another sound", x.grounded(1, 5, 1, 0, 2), 0);
        is("22 at hour 2 it is", x.grounded(1, 5, 6, 2, 2), bits(4, 6));
        is("22 at hour 1 not", x.grounded(1, 5, 6, 1, 2), 0);
        x.hush(0);
        is("22 hushed", x.grounded(0, 5, 1, 0, 2), 0);
        x.undo();
        x.hammer(3);
        is("22 the hammer at g, not at 0", x.grounded(0, 5, 0, 0, 2), 0);
        is("22 the hammer at both", x.grounded(0, 5, 1, 0, 2), bits(4, 6));
        x.undo();
        x.change(0, 2);
        is("22 by wind: it seems one on", x.grounded(0, 5, 1, 0, 2), bits(3, 5));
        x.change(1, 0);
        is("22 by rain", x.grounded(0, 5, 0, 0, 2), bits(6, 6));
        is("22 beyond the river: from 9 it seems at 8", x.grounded(0, 9, 0, 0, 2), 0);
        is("22 unknown", x.grounded(2, 5, 1, 0, 2), -1);
        is("22 unknown first", x.grounded(2, 10, 1, 0, 2), -1);
        is("22 bad", x.grounded(0, 10, 1, 0, 2), -2);
        is("22 bad", x.grounded(0, 5, 10, 0, 2), -2);
        is("22 bad", x.grounded(0, 5, 1, 10, 2), -2);
        is("22 bad", x.grounded(0, 5, 1, 0, 0), -2);
        is("22 bad", x.grounded(0, 5, 1, 0, 10), -2);
        for (int v : OUTSIDE) {
            is("22 unknown", x.grounded(v, 5, 1, 0, 2), -1);
            is("22 bad", x.grounded(0, v, 1, 0, 2), -2);
            is("22 bad", x.grounded(0, 5, v, 0, 2), -2);
            is("22 bad", x.grounded(0, 5, 1, v, 2), -2);
            is("22 bad", x.grounded(0, 5, 1, 0, v), -2);
        }
    }

    private static void see() {
        EarFerry x = Due.on("R001S03090");
        is("23 unknown", x.see(1, 0, 0, true), -1);
        is("23 unknown first", x.see(1, 10, 0, true), -1);
        is("23 bad", x.see(0, 10, 0, true), -2);
        is("23 bad", x.see(0, 0, 10, true), -2);
        for (int v : OUTSIDE) {
            is("23 unknown", x.see(v, 0, 0, true), -1);
            is("23 bad", x.see(0, v, 0, true), -2);
            is("23 bad", x.see(0, 0, v, true), -2);
        }
        for (int i = 1; i <= 6; i++) {
            is("23 see", x.see(0, i, 9, i < 3), i);
        }
        is("23 full", x.see(0, 0, 0, true), -4);
        is("23 bad before full", x.see(0, 0, 10, true), -2);
        is("23 unknown before full", x.see(1, 0, 0, true), -1);
        is("23 no act", x.about(9), 0);
        is("23 about(10)", x.about(10), 6);
    }

    private static void unsee() {
        EarFerry x = Due.on("R001S03090");
        is("24 unsee()", x.unsee(), 0);
        x.see(0, 9, 0, true);
        x.see(0, 9, 0, true);
        is("24 weather before", x.weather(0), 0);
        is("24 unsee()", x.unsee(), 2);
        is("24 about(10)", x.about(10), 0);
        is("24 weather", x.weather(0), 15);
        is("24 see", x.see(0, 9, 0, true), 1);
    }

    private static void weather() {
        EarFerry x = Due.on("R432S53090S53093");
        is("25 nothing seen", x.weather(0), 15);
        is("25 the first", x.weather(1), 0);
        // Heard at 6: by wind 1 with rain 0 and 1; by wind 2 with rain 0 .. 2; by wind 0 with rain 0.
        x.see(0, 6, 0, true);
        is("25 pairs", x.weather(0), 6);
        is("25 the first", x.weather(1), 0);
        // Not at 7 by rain 0: wind 1 is out (2 far), wind 2 is out (1 far); so by rain 1 wind 2 is out.
        x.see(0, 7, 0, false);
        is("25 pairs", x.weather(0), 3);
        is("25 the first", x.weather(1), 0);
        // Water at 7, 2 far: not heard by rain 1 or more.
        x.see(1, 7, 0, false);
        is("25 pairs", x.weather(0), 2);
        is("25 the first: rain 1, wind 1", x.weather(1), 11);
        x.hush(0);
        is("25 as hushed now", x.weather(0), 0);
        is("25 NONE", x.weather(1), -9);
        x.hush(0);
        Due.text(x, "R001S53090");
        x.river();
        is("25 of sounds that are not any more nothing", x.weather(0), 3);
        Due.text(x, "R001");
        x.river();
        is("25 none is left to look at", x.weather(0), 15);
        is("25 but they were seen", x.about(10), 3);
        Due.text(x, "R001S53890S53093");
        x.river();
        is("25 at hour 0 it is not heard", x.weather(0), 0);
        x.unsee();
        x.see(0, 5, 8, true);
        x.see(0, 5, 7, false);
        is("25 at hour 8 it is: by rain 0 and 1, by rain 2 in a calm", x.weather(0), 7);
        is("25 bad", x.weather(2), -2);
        for (int v : OUTSIDE) {
            is("25 bad", x.weather(v), -2);
        }
    }

    private static void rivals() {
        EarFerry x = new EarFerry();
        is("26 the rival stays away", x.rivals(3, 0), 11);
        is("26 the first", x.rivals(3, 1), 10);
        // By rain 4 no hammer is heard: all pairs that can be are at rest (11 times 11, less 10 at like cells).
        x.change(4, 1);
        is("26 all", x.rivals(0, 0), 111);
        is("26 the first: 0 and 1", x.rivals(0, 1), 1);
        x.hammer(3);
        is("26 those of now do not count", x.rivals(0, 0), 111);
        is("26 bad", x.rivals(10, 0), -2);
        is("26 bad", x.rivals(0, 2), -2);
        for (int v : OUTSIDE) {
            is("26 bad", x.rivals(v, 0), -2);
            is("26 bad", x.rivals(0, v), -2);
        }
    }

    private static void chance(EarFerry x, int cell, int hour, int tenths, int[] want) {
        fraction("27 chance(" + cell + ", " + hour + ", " + tenths + ")", x.chance(cell, hour, tenths, true),
            x.chance(cell, hour, tenths, false), want[0], want[1]);
    }

    private static void chance() {
        EarFerry x = Due.on("R001S01090S02090");
        chance(x, 0, 0, 0, new int[] {1, 1});
        chance(x, 0, 0, 3, new int[] {7, 10});
        chance(x, 1, 0, 3, new int[] {49, 100});
        chance(x, 1, 0, 5, new int[] {1, 4});
        chance(x, 0, 0, 10, new int[] {0, 1});
        chance(x, 5, 0, 3, new int[] {0, 1});
        x.hush(1);
        chance(x, 0, 0, 4, new int[] {3, 5});
        chance(x, 1, 0, 3, new int[] {0, 1});
        EarFerry y = new EarFerry();
        y.hammer(0);
        y.hammer(1);
        chance(y, 3, 0, 10, new int[] {1, 1});
        EarFerry z = Due.on("R001S01090S01090S01090S01090S01090S01090");
        chance(z, 0, 0, 7, new int[] {882351, 1000000});
        is("27 bad", x.chance(10, 0, 0, true), -2);
        is("27 bad", x.chance(0, 10, 0, true), -2);
        is("27 bad", x.chance(0, 0, 11, true), -2);
        for (int v : OUTSIDE) {
            is("27 bad", x.chance(v, 0, 0, true), -2);
            is("27 bad", x.chance(0, v, 0, false), -2);
            is("27 bad", x.chance(0, 0, v, true), -2);
        }
    }

    private static void seed() {
        EarFerry x = new EarFerry();
        is("28 seed", x.seed(Long.MIN_VALUE), 0);
        is("28 seed", x.seed(Long.MAX_VALUE), Long.MIN_VALUE);
        is("28 seed", x.seed(-1), Long.MAX_VALUE);
        is("28 seed", x.seed(0), -1);
    }

    private static void days() {
        EarFerry x = Due.on("R001S01090");
        // From seed 0: 1442695040888963407, whose upper 31 bits are 167952871: by 64 left 39, so sound 0 fails.
        is("29 days(1)", x.days(1), 0);
        is("29 the seed", x.seed(0), 1442695040888963407L);
        x.hush(0);
        is("29 hushed", x.days(30), 0);
        x.hush(0);
        x.seed(0);
        long seed = 0;
        int sureDays = 0;
        for (int i = 0; i < 30; i++) {
            seed = seed * 6364136223846793005L + 1442695040888963407L;
            sureDays += Math.floorMod(seed >>> 33, 64L) % 2 == 0 ? 1 : 0;
        }
        is("29 days(30)", x.days(30), sureDays);
        is("29 the seed", x.seed(0), seed);
        is("29 the hour stays", x.about(2), 0);
        is("29 bad", x.days(0), -2);
        is("29 bad", x.days(31), -2);
        for (int v : OUTSIDE) {
            is("29 bad", x.days(v), -2);
        }
        is("29 the seed stays", x.seed(0), 0);
        // Hammers do not fail, and hours go by from now on, over midnight.
        EarFerry y = Due.on("R001");
        y.hammer(1);
        y.hammer(3);
        is("29 0 is sure by hammers", y.days(30), 30);
        EarFerry z = Due.on("R301S31880S31220");
        for (int i = 0; i < 8; i++) {
            z.hour();
        }
        int want = 0;
        seed = 5;
        for (int i = 0; i < 15; i++) {
            seed = seed * 6364136223846793005L + 1442695040888963407L;
            int h = (8 + i) % 10;
            boolean works = h == 8 && (seed >>> 33) % 2 == 0 || h == 2 && (seed >>> 33) % 4 < 2;
            want += works ? 1 : 0;
        }
        z.seed(5);
        is("29 hours go by", z.days(15), want);
    }

    private static void keep() {
        EarFerry x = Due.on("R401S53090");
        x.hour();
        x.hour();
        is("30 keep(0)", x.keep(0), 2);
        is("30 acts stay", x.about(9), 2);
        is("30 keep(2)", x.keep(2), -1);
        for (int v : OUTSIDE) {
            is("30 unknown", x.keep(v), -1);
        }
        x.hour();
        is("30 keep(0) anew", x.keep(0), 3);
        x.hour();
        is("30 again(0)", x.again(0), 3);
        is("30 again(1)", x.again(1), -3);
    }

    private static void again() {
        EarFerry x = Due.on("R401S53090");
        x.row(1);
        x.hush(0);
        x.hammer(9);
        x.hammer(3);
        x.change(2, 2);
        x.hour();
        String kept = Due.look(x).replaceFirst("^((\\S+ ){9})\\S+ ", "$1");
        x.keep(1);
        x.row(2);
        x.hush(0);
        x.hammer(9);
        x.change(0, 0);
        x.hour();
        is("31 again(0)", x.again(0), -3);
        is("31 acts", x.about(9), 11);
        is("31 again(1)", x.again(1), 1);
        is("31 no acts", x.about(9), 0);
        is("31 undo()", x.undo(), -3);
        DUE.holds("31 all as it was kept", kept.equals(Due.look(x).replaceFirst("^((\\S+ ){9})\\S+ ", "$1")));
        x.hour();
        is("31 again(1) once more", x.again(1), 1);
        is("31 again(2)", x.again(2), -1);
        for (int v : OUTSIDE) {
            is("31 unknown", x.again(v), -1);
        }
    }

    /** Heard at 1 .. 5, 2 .. 6, 3 .. 7, 4 .. 8, 5 .. 9: each cell has a set of its own. Hammers are as loud. */
    private static void whereAllIsSure() {
        EarFerry x = Due.on("R001S33090S43090S53090S63090S73090");
        is("15 all", x.sure(0), 1023);
        is("20 none is needed", x.hammers(0, 10, 0), 0);
        is("20 none is needed", x.hammers(0, 10, 1), 0);
        is("21 ten times ten", x.bestHours(10, 1), 100);
        is("26 nothing better, nothing worse", x.rivals(0, 0), 111);
        is("26 the first", x.rivals(0, 1), 1);
        EarFerry y = Due.on("R001S53090S53090S63090S63090S73090S73090");
        is("20 two", y.hammers(0, 10, 0), 2);
        is("20 at 3 and 4", y.hammers(0, 10, 1), 34);
        y.hammer(4);
        y.hammer(3);
        is("15 all", y.sure(0), 1023);
        is("18 each can be spared: the least", y.spared(0), 0);
        y.hush(0);
        is("18 the other one can not", y.spared(0), 1);
        y.hush(2);
        y.hush(4);
        is("15 all", y.sure(0), 1023);
    }

    private static void whatIsRefusedChangesNothing() {
        EarFerry x = Due.on("R901S53090");
        Due.text(x, "R901S53090S");
        x.hammer(1);
        x.hammer(2);
        for (int i = 0; i < 6; i++) {
            x.see(0, i, i, true);
        }
        x.seed(3);
        String before = Due.look(x);
        x.write(-1);
        x.river();
        x.row(1);
        x.row(7);
        x.hush(4);
        x.hammer(3);
        x.hammer(10);
        x.change(0, 1);
        x.change(5, 1);
        x.see(0, 0, 0, false);
        x.days(0);
        x.days(31);
        x.keep(2);
        x.again(0);
        x.again(5);
        DUE.holds("4 what is refused changes nothing", before.equals(Due.look(x)));
    }

    private static void whatIsAskedChangesNothing() {
        EarFerry x = Due.on("R401S53090S84251S13593");
        x.hammer(6);
        x.hush(1);
        x.see(0, 5, 0, true);
        String before = Due.look(x);
        for (int h = 0; h < 10; h++) {
            x.heard(h, h);
            x.sure(h);
            x.where(0, h);
            x.when(0, h);
            x.spared(h);
            x.worth(0, h, true);
            x.hammers(h, 10, 0);
            x.bestHours(1 + h, 1);
            x.grounded(0, 5, h, h, 5);
            x.rivals(h, 0);
            x.chance(h, h, h, false);
        }
        DUE.holds("2 what is asked changes nothing", before.equals(Due.look(x)));
    }
}
