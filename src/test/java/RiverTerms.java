/** The terms of the river, of what is heard and of acts, sentence by sentence. */
final class RiverTerms {
    /** A river that takes all 40 bytes. */
    private static final String WHOLE = "R942S01990S99000S59091S31552S44283S01123";

    private RiverTerms() {
    }

    static void test() {
        calls();
        cells();
        cellsAreInARow();
        hours();
        sounds();
        bytes();
        head();
        partsAreNumbered();
        part();
        partsHours();
        faultIsTheFirst();
        faultAtTheEnd();
        noFault();
        atFirst();
        madeAnew();
        hushedIsNotHeard();
        heardFromItsHourToItsHour();
        loudEnough();
        seemsToBe();
        deep();
        shrill();
        water();
        hammersAreSounds();
        sets();
        sureCells();
        rowed();
        hushed();
        hammered();
        changed();
        anHour();
        acts();
        undone();
    }

    private static void calls() {
        Sentence.under("What it is",
            "An object is used for at most 512 calls after it has been made; what later calls answer is free.");
        EarFerry x = new EarFerry();
        for (int call = 1; call <= 512; call++) {
            Sentence.is("hour() as call " + call, x.hour(), call % 10);
        }
        EarFerry y = new EarFerry();
        y.write('R');
        for (int call = 2; call <= 510; call++) {
            y.wipe();
        }
        Sentence.is("write, the 511th call", y.write(82), 1);
        Sentence.is("about(11), the 512th call", y.about(11), 1);
        // What they answer is free, but they must answer.
        for (int call = 513; call <= 3000; call++) {
            y.write(82);
            y.hour();
            y.see(0, 0, 0, true);
            y.days(30);
        }
    }

    private static void cells() {
        Sentence.under("What it is", "======== 1 CELLS are 0 ..");
        Sentence.terms("9 in a row");
        Sentence.range("hammer", 0, 9, (x, cell) -> x.hammer(cell), Sentence.BAD);
        Sentence.range("heard", 0, 9, (x, cell) -> x.heard(cell, 0), Sentence.BAD);
        Sentence.range("when", 0, 9, (x, cell) -> x.when(0, cell), Sentence.BAD);
        Sentence.range("grounded, g", 0, 9, (x, cell) -> x.grounded(0, cell, 0, 0, 1), Sentence.BAD);
        Sentence.range("grounded, t", 0, 9, (x, cell) -> x.grounded(0, 0, cell, 0, 1), Sentence.BAD);
        Sentence.range("see", 0, 9, (x, cell) -> x.see(0, cell, 0, true), Sentence.BAD);
        Sentence.range("chance", 0, 9, (x, cell) -> x.chance(cell, 0, 0, true), Sentence.BAD);
    }

    private static void cellsAreInARow() {
        Sentence.terms("9 in a row");
        EarFerry x = Due.on("R001S09090S99090S02090S92090");
        Sentence.is("9 loud at 0: all but 9", x.sound(0, 5), Sentence.bits(0, 8));
        Sentence.is("9 loud at 9: all but 0", x.sound(1, 5), Sentence.bits(1, 9));
        Sentence.is("2 loud at 0 is not heard at 9", x.sound(2, 5), Sentence.bits(0, 1));
        Sentence.is("2 loud at 9 is not heard at 0", x.sound(3, 5), Sentence.bits(8, 9));
    }

    private static void hours() {
        Sentence.terms(", HOURS 0 .. 9, over and over.");
        Sentence.range("heard", 0, 9, (x, hour) -> x.heard(0, hour), Sentence.BAD);
        Sentence.range("sure", 0, 9, (x, hour) -> x.sure(hour), Sentence.BAD);
        Sentence.range("where", 0, 9, (x, hour) -> x.where(0, hour), Sentence.BAD);
        Sentence.range("spared", 0, 9, (x, hour) -> x.spared(hour), Sentence.BAD);
        Sentence.range("worth", 0, 9, (x, hour) -> x.worth(0, hour, true), Sentence.BAD);
        Sentence.range("hammers", 0, 9, (x, hour) -> x.hammers(hour, 1, 0), Sentence.BAD);
        Sentence.range("grounded", 0, 9, (x, hour) -> x.grounded(0, 0, 0, hour, 1), Sentence.BAD);
        Sentence.range("see", 0, 9, (x, hour) -> x.see(0, 0, hour, true), Sentence.BAD);
        Sentence.range("rivals", 0, 9, (x, hour) -> x.rivals(hour, 0), Sentence.BAD);
        Sentence.range("chance", 0, 9, (x, hour) -> x.chance(0, hour, 0, true), Sentence.BAD);
        EarFerry x = Due.on("R001S09000");
        for (int day = 0; day < 4; day++) {
            Sentence.is("heard at hour 0 of each day", x.sound(0, 5), Sentence.bits(0, 8));
            for (int i = 0; i < 10; i++) {
                x.hour();
                Sentence.is("heard at hour " + x.about(2), x.sound(0, 5), i == 9 ? Sentence.bits(0, 8) : 0);
            }
        }
    }

    private static void sounds() {
        Sentence.terms("SOUNDS are 0, 1, .. (6 at most).");
        String text = "R001";
        for (int many = 0; many <= 6; many++) {
            EarFerry x = Due.on(text);
            Sentence.is("sounds", x.about(0), many);
            Sentence.is("the one behind the last", x.sound(many, 0), Sentence.UNKNOWN);
            for (int sound = 0; sound < many; sound++) {
                Sentence.is("sound " + sound, x.sound(sound, 0), sound);
                Sentence.is("sound " + sound + " can be hushed", x.hush(sound), 1);
            }
            text += "S" + many + "1090";
        }
        EarFerry y = new EarFerry();
        Due.text(y, text);
        Sentence.is("of a seventh no byte finds room", y.about(11), 40);
        Sentence.is("river()", y.river(), 6);
    }

    private static void bytes() {
        Sentence.terms("THE TEXT is bytes (40 at most).");
        Sentence.range("write", 0, 255, (x, letter) -> x.write(letter), Sentence.BAD);
        EarFerry x = new EarFerry();
        for (int i = 1; i <= 40; i++) {
            Sentence.is("write", x.write(255), i);
        }
        Sentence.is("the 41st", x.write(255), Sentence.FULL);
        Sentence.is("there are 40", x.about(11), 40);
        Sentence.is("wipe()", x.wipe(), 40);
        Sentence.is("there is room again", x.write(0), 1);
    }

    /** Each of the 256 bytes at a place of this text: the fault is at that place but for the bytes told. */
    private static void onlyThese(String text, int place, String fit) {
        for (int letter = 0; letter < 256; letter++) {
            EarFerry x = new EarFerry();
            Due.text(x, text.substring(0, place) + (char) letter);
            boolean fits = fit.indexOf(letter) >= 0;
            boolean whole = fits && place >= 3 && (place - 3) % 6 == 0;
            Sentence.is("fault() of byte " + letter + " behind " + text.substring(0, place), x.fault(),
                whole ? Sentence.NONE : fits ? place + 1 : place);
            Sentence.is("river()", x.river(), whole ? (place - 3) / 6 : Sentence.LATE);
        }
    }

    private static void head() {
        Sentence.terms("A RIVER is a TEXT: R, START (a CELL), RAIN (0 .. 4), WIND (0 .. 2), then PARTS, none or more,");
        onlyThese(WHOLE, 0, "R");
        onlyThese(WHOLE, 1, "0123456789");
        onlyThese(WHOLE, 2, "01234");
        onlyThese(WHOLE, 3, "012");
        for (int n = 0; n < 150; n++) {
            EarFerry x = Due.on("R" + n / 15 + n / 3 % 5 + n % 3);
            Sentence.is("START", x.about(1), n / 15);
            Sentence.is("RAIN", x.about(3), n / 3 % 5);
            Sentence.is("WIND", x.about(4), n % 3);
            Sentence.is("no PARTS", x.about(0), 0);
        }
    }

    private static void partsAreNumbered() {
        Sentence.terms("numbered as they are told:");
        EarFerry x = Due.on("R001S91120S12341S53452S34563S75670S06781");
        int[] cells = {9, 1, 5, 3, 7, 0};
        for (int sound = 0; sound < 6; sound++) {
            Sentence.is("CELL", x.sound(sound, 0), cells[sound]);
            Sentence.is("how loud", x.sound(sound, 1), sound + 1);
            Sentence.is("from", x.sound(sound, 2), sound == 0 ? 1 : sound + 2);
            Sentence.is("to", x.sound(sound, 3), sound == 0 ? 2 : sound + 3);
            Sentence.is("KIND", x.sound(sound, 4), sound % 4);
        }
    }

    private static void part() {
        Sentence.terms("Sclftk a SOUND at CELL c, l (1 .. 9) loud, from HOUR f to HOUR t");
        for (int start = 4; start <= 34; start += 6) {
            onlyThese(WHOLE, start, "S");
            onlyThese(WHOLE, start + 1, "0123456789");
            onlyThese(WHOLE, start + 2, "123456789");
            onlyThese(WHOLE, start + 3, "0123456789");
        }
        Sentence.terms(", of KIND k (0 PLAIN, 1 DEEP, 2 SHRILL, 3 WATER)");
        for (int start = 4; start <= 34; start += 6) {
            onlyThese(WHOLE, start + 5, "0123");
        }
    }

    private static void partsHours() {
        Sentence.terms("(f .. 9)");
        for (int start = 4; start <= 34; start += 6) {
            onlyThese(WHOLE, start + 4, "0123456789".substring(WHOLE.charAt(start + 3) - '0'));
        }
        for (int from = 0; from <= 9; from++) {
            onlyThese("R001S05" + from + "0", 8, "0123456789".substring(from));
            onlyThese("R001S05000S05" + from + "0", 14, "0123456789".substring(from));
        }
    }

    private static void faultIsTheFirst() {
        Sentence.terms("FAULT: the place of the first byte by which THE TEXT can be no RIVER, whatever came behind it"
            + " (its length set aside);");
        for (int place = 0; place < 40; place++) {
            EarFerry x = new EarFerry();
            Due.text(x, WHOLE.substring(0, place) + "x");
            Sentence.is("fault() by its last byte", x.fault(), place);
            for (int i = place + 1; i < 40; i++) {
                x.write(WHOLE.charAt(i));
            }
            Sentence.is("fault() with good bytes behind it", x.fault(), place);
            Due.text(x, WHOLE.substring(0, place) + "x".repeat(40 - place));
            Sentence.is("fault() with bad bytes behind it", x.fault(), place);
        }
        EarFerry y = new EarFerry();
        Due.text(y, WHOLE.replace("S01123", "S00123"));
        Sentence.is("0 loud in the last part", y.fault(), 36);
    }

    private static void faultAtTheEnd() {
        Sentence.terms("its length, if it is only not at its end;");
        for (int length = 0; length < 40; length++) {
            if (length < 4 || (length - 4) % 6 != 0) {
                EarFerry x = new EarFerry();
                Due.text(x, WHOLE.substring(0, length));
                Sentence.is("fault() of " + length + " bytes", x.fault(), length);
                Sentence.is("river()", x.river(), Sentence.LATE);
            }
        }
    }

    private static void noFault() {
        Sentence.terms("NONE: none. At first");
        for (int length = 4; length <= 40; length += 6) {
            EarFerry x = new EarFerry();
            Due.text(x, WHOLE.substring(0, length));
            Sentence.is("fault() of " + length + " bytes", x.fault(), Sentence.NONE);
            Sentence.is("river()", x.river(), (length - 4) / 6);
        }
    }

    private static void atFirst() {
        Sentence.terms("At first START, RAIN are 0, WIND 1, there are no SOUNDS.");
        EarFerry x = new EarFerry();
        Sentence.is("THE FERRY", x.about(1), 0);
        Sentence.is("RAIN", x.about(3), 0);
        Sentence.is("WIND", x.about(4), 1);
        Sentence.is("SOUNDS", x.about(0), 0);
        Sentence.is("of SOUND 0", x.sound(0, 0), Sentence.UNKNOWN);
        x.hammer(0);
        Sentence.is("no rain, no wind", x.where(64, 0), Sentence.bits(0, 2));
    }

    private static void madeAnew() {
        Sentence.terms("When THE RIVER is made anew, THE FERRY is at START, THE HOUR is 0, nothing is HUSHED,"
            + " there are no HAMMERS, RAIN, WIND are as told.");
        EarFerry x = Sentence.busy();
        x.hammer(5);
        Due.text(x, "R940S59090S59090");
        x.river();
        int[] want = {2, 9, 0, 4, 0, 0, 0, Sentence.NONE, Sentence.NONE, 0};
        for (int what = 0; what < want.length; what++) {
            Sentence.is("about(" + what + ")", x.about(what), want[what]);
        }
        Sentence.is("heard as told", x.heard(5, 0), 3);
        x.hush(1);
        x.hour();
        x.row(2);
        x.river();
        for (int what = 0; what < want.length; what++) {
            Sentence.is("the same text once more: about(" + what + ")", x.about(what), want[what]);
        }
    }

    private static void hushedIsNotHeard() {
        Sentence.terms("A SOUND is HEARD at a CELL at an HOUR, if it is not HUSHED,");
        EarFerry x = Due.on("R001S59090S59090S59090S59090S59090S59090");
        for (int sound = 0; sound < 6; sound++) {
            Sentence.is("heard before", x.heard(5, 3), 63 & ~((1 << sound) - 1));
            x.hush(sound);
            Sentence.is("where it is heard", x.sound(sound, 5), 0);
        }
        Sentence.is("all are hushed", x.heard(5, 3), 0);
        for (int sound = 5; sound >= 0; sound--) {
            x.hush(sound);
            Sentence.is("where it is heard", x.sound(sound, 5), Sentence.bits(0, 9));
        }
        Sentence.is("none is hushed", x.heard(5, 3), 63);
    }

    private static void heardFromItsHourToItsHour() {
        Sentence.terms("the HOUR is from f to t, and");
        for (int from = 0; from <= 9; from++) {
            for (int until = from; until <= 9; until++) {
                EarFerry x = Due.on("R001S51" + from + until + "0");
                Sentence.is("hours from " + from + " to " + until, x.when(1, 5), Sentence.bits(from, until));
                for (int hour = 0; hour <= 9; hour++) {
                    boolean there = from <= hour && hour <= until;
                    Sentence.is("heard(5, " + hour + ")", x.heard(5, hour), there ? 1 : 0);
                    Sentence.is("now", x.sound(0, 5), there ? Sentence.bits(5, 5) : 0);
                    x.hour();
                }
            }
        }
    }

    /** Cells at which a sound is heard, if it goes on so far on both sides of where it seems to be. */
    private static int about(int seems, int reach) {
        return reach < 0 ? 0 : Sentence.bits(Math.max(0, seems - reach), Math.min(9, seems + reach));
    }

    /** All cells and all that a sound of this kind can be loud, by all rain and wind. */
    private static void kind(int kind, int rainCounts, int windCounts) {
        for (int weather = 0; weather < 15; weather++) {
            int rain = weather / 3;
            int wind = weather % 3;
            for (int cell = 0; cell <= 9; cell++) {
                for (int loud = 1; loud <= 9; loud++) {
                    String text = "R0" + rain + wind + "S" + cell + loud + "09" + kind;
                    int seems = cell + windCounts * (wind - 1);
                    Sentence.is(text, Due.on(text).sound(0, 5), about(seems, loud - 1 - rainCounts * rain));
                }
            }
        }
    }

    private static void loudEnough() {
        Sentence.terms("l is more than RAIN and how far that CELL is from where it seems to be, together");
        kind(0, 1, 1);
        EarFerry x = Due.on("R021S43090");
        Sentence.is("3 loud by rain 2: where it is", x.heard(4, 0), 1);
        Sentence.is("just as much on the one side", x.heard(3, 0), 0);
        Sentence.is("just as much on the other side", x.heard(5, 0), 0);
        x.change(3, 1);
        Sentence.is("just as much by rain alone", x.heard(4, 0), 0);
        x.change(0, 1);
        Sentence.is("2 far", x.heard(2, 0), 1);
        Sentence.is("3 far: just as much by how far it is alone", x.heard(1, 0), 0);
    }

    private static void seemsToBe() {
        Sentence.terms("(it seems to be at its own CELL, and WIND less 1; also beyond 0, 9).");
        EarFerry x = Due.on("R000S02090S92090S01090S91090S52090");
        Sentence.is("at 0 it seems at -1, 2 loud", x.sound(0, 5), Sentence.bits(0, 0));
        Sentence.is("at 9 it seems at 8", x.sound(1, 5), Sentence.bits(7, 9));
        Sentence.is("at 0 it seems at -1, 1 loud", x.sound(2, 5), 0);
        Sentence.is("at 9 it seems at 8, 1 loud", x.sound(3, 5), Sentence.bits(8, 8));
        Sentence.is("at 5 it seems at 4", x.sound(4, 5), Sentence.bits(3, 5));
        x.change(0, 2);
        Sentence.is("at 0 it seems at 1", x.sound(0, 5), Sentence.bits(0, 2));
        Sentence.is("at 9 it seems at 10, 2 loud", x.sound(1, 5), Sentence.bits(9, 9));
        Sentence.is("at 0 it seems at 1, 1 loud", x.sound(2, 5), Sentence.bits(1, 1));
        Sentence.is("at 9 it seems at 10, 1 loud", x.sound(3, 5), 0);
        Sentence.is("at 5 it seems at 6", x.sound(4, 5), Sentence.bits(5, 7));
        x.change(0, 1);
        Sentence.is("at 0", x.sound(2, 5), Sentence.bits(0, 0));
        Sentence.is("at 9", x.sound(3, 5), Sentence.bits(9, 9));
    }

    private static void deep() {
        Sentence.terms("DEEP: RAIN does not count;");
        kind(1, 0, 1);
        EarFerry x = Due.on("R041S51091S51090");
        Sentence.is("1 loud by rain 4", x.sound(0, 5), Sentence.bits(5, 5));
        Sentence.is("a plain one is not heard", x.sound(1, 5), 0);
        x.change(4, 2);
        Sentence.is("wind counts", x.sound(0, 5), Sentence.bits(6, 6));
    }

    private static void shrill() {
        Sentence.terms("SHRILL: RAIN counts twice;");
        kind(2, 2, 1);
        EarFerry x = Due.on("R041S59092S58092");
        Sentence.is("9 loud by rain 4", x.sound(0, 5), Sentence.bits(5, 5));
        Sentence.is("8 loud by rain 4", x.sound(1, 5), 0);
        x.change(4, 0);
        Sentence.is("wind counts", x.sound(0, 5), Sentence.bits(4, 4));
    }

    private static void water() {
        Sentence.terms("WATER: WIND does not count.");
        kind(3, 1, 0);
        EarFerry x = Due.on("R000S01093S91093S01090");
        Sentence.is("at 0", x.sound(0, 5), Sentence.bits(0, 0));
        Sentence.is("at 9", x.sound(1, 5), Sentence.bits(9, 9));
        x.change(0, 2);
        Sentence.is("at 0", x.sound(0, 5), Sentence.bits(0, 0));
        Sentence.is("at 9", x.sound(1, 5), Sentence.bits(9, 9));
        x.change(1, 1);
        Sentence.is("rain counts", x.sound(0, 5), 0);
    }

    private static void hammersAreSounds() {
        Sentence.terms("A HAMMER (2 at most) at a CELL is a PLAIN SOUND, 3 loud, at all HOURS"
            + " (numbered behind all SOUNDS, 6 and 7, by which came first).");
        for (int weather = 0; weather < 15; weather++) {
            for (int cell = 0; cell <= 9; cell++) {
                EarFerry x = Due.on("R0" + weather / 3 + weather % 3);
                x.hammer(cell);
                int cells = about(cell + weather % 3 - 1, 2 - weather / 3);
                Sentence.is("by weather " + weather + " at " + cell, x.where(64, 0), cells);
                Sentence.is("at the last hour too", x.where(64, 9), cells);
                Sentence.is("at all hours", x.when(64, 4), (cells >> 4) % 2 == 0 ? 0 : 1023);
            }
        }
        EarFerry y = Due.on("R001S01090");
        y.hammer(8);
        y.hammer(5);
        Sentence.is("8 came first", y.heard(9, 0), 64);
        Sentence.is("5 came then", y.heard(4, 0), 128);
        Sentence.is("both", y.heard(7, 0), 192);
        Sentence.refused("a third one", () -> twoHammers(), x -> x.hammer(0), Sentence.FULL);
        Sentence.refused("a hammer can not be hushed", () -> twoHammers(), x -> x.hush(6), Sentence.UNKNOWN);
        Sentence.refused("nor the second one", () -> twoHammers(), x -> x.hush(7), Sentence.UNKNOWN);
    }

    private static EarFerry twoHammers() {
        EarFerry x = Due.on("R001S01090S01090S01090S01090S01090S01090");
        x.hammer(8);
        x.hammer(5);
        return x;
    }

    private static void sets() {
        Sentence.terms("SET of a CELL at an HOUR: what is HEARD there (bits).");
        EarFerry x = Due.on("R001S49090S49090S49090S49090S49090S49090");
        x.hammer(4);
        x.hammer(5);
        Sentence.is("all eight", x.heard(5, 9), 255);
        Sentence.is("where there is all", x.where(255, 9), Sentence.bits(3, 6));
        for (int sound = 0; sound < 6; sound++) {
            x.hush(sound);
        }
        Sentence.is("hammers alone", x.heard(5, 9), 192);
        Sentence.is("the first alone", x.heard(2, 9), 64);
        Sentence.is("the second alone", x.heard(7, 9), 128);
        Sentence.is("nothing", x.heard(9, 9), 0);
        EarFerry y = Due.on("R001S91090S91090S91090S91090S91090S91090");
        for (int sound = 0; sound < 6; sound++) {
            y.hush(sound);
        }
        for (int sound = 0; sound < 6; sound++) {
            y.hush(sound);
            Sentence.is("bit " + sound, y.heard(9, 0), 1 << sound);
            y.undo();
        }
    }

    private static void sureCells() {
        Sentence.terms("A CELL is SURE at an HOUR, if no other one has the same SET.");
        Sentence.is("nothing is heard: none", new EarFerry().sure(0), 0);
        EarFerry all = Due.on("R001S33090S43090S53090S63090S73090");
        Sentence.is("each has its own: all", all.sure(0), 1023);
        Sentence.is("one alone hears nothing", Due.on("R001S09090").sure(0), Sentence.bits(9, 9));
        Sentence.is("one alone hears something", Due.on("R001S91090").sure(0), Sentence.bits(9, 9));
        Sentence.is("two do", Due.on("R001S92090").sure(0), 0);
        Sentence.is("first and last alike, far apart", Due.on("R001S48090S43091").sure(0), 0);
        // Heard at 1 .. 7: 0, 8, 9 are alike, though 0 is far off.
        Sentence.is("not by side by side alone", Due.on("R001S44090S41090").sure(0), Sentence.bits(4, 4));
    }

    private static void rowed() {
        Sentence.terms("ROWED: THE FERRY goes a CELL on, or back (0 .. 9).");
        for (int start = 0; start <= 9; start++) {
            String text = "R" + start + "01";
            EarFerry on = Due.on(text);
            Sentence.is("on from " + start, on.row(1), start == 9 ? Sentence.LATE : 0);
            Sentence.is("is at", on.about(1), Math.min(9, start + 1));
            EarFerry back = Due.on(text);
            Sentence.is("back from " + start, back.row(2), start == 0 ? Sentence.LATE : 0);
            Sentence.is("is at", back.about(1), Math.max(0, start - 1));
        }
    }

    private static void hushed() {
        Sentence.terms("HUSHED: a SOUND is so, or is not any more.");
        EarFerry x = Due.on("R001S01090S01090S01090S01090S01090S01090");
        int bits = 0;
        for (int sound : new int[] {0, 5, 3, 5, 1, 2, 4, 5, 0, 0}) {
            bits ^= 1 << sound;
            Sentence.is("hush(" + sound + ")", x.hush(sound), (bits >> sound) % 2);
            Sentence.is("HUSHED ones", x.about(5), bits);
        }
        Sentence.is("all six", bits, 63);
    }

    private static void hammered() {
        Sentence.terms("HAMMERED: one more HAMMER, at a CELL where none is, or one is gone (the other one is 6 then).");
        EarFerry x = new EarFerry();
        Sentence.is("one at 9", x.hammer(9), 1);
        Sentence.is("one at 0", x.hammer(0), 2);
        Sentence.is("9 is 6", x.where(64, 0), Sentence.bits(7, 9));
        Sentence.is("0 is 7", x.where(128, 0), Sentence.bits(0, 2));
        Sentence.is("9 is gone", x.hammer(9), 1);
        Sentence.is("0 is 6 then", x.where(64, 0), Sentence.bits(0, 2));
        Sentence.is("none is 7", x.where(128, 0), 0);
        Sentence.is("9 comes back", x.hammer(9), 2);
        Sentence.is("9 is 7 now", x.where(128, 0), Sentence.bits(7, 9));
        Sentence.is("the second one is gone", x.hammer(9), 1);
        Sentence.is("0 is still 6", x.where(64, 0), Sentence.bits(0, 2));
        Sentence.is("the last one is gone", x.hammer(0), 0);
        Sentence.is("none is heard", x.where(0, 0), 1023);
        Sentence.is("one at 5", x.hammer(5), 1);
        Sentence.is("it is 6", x.where(64, 0), Sentence.bits(3, 7));
    }

    private static void changed() {
        Sentence.terms("CHANGED: RAIN, WIND are others.");
        for (int was = 0; was < 15; was++) {
            for (int then = 0; then < 15; then++) {
                EarFerry x = Due.on("R0" + was / 3 + was % 3);
                int told = was == then ? Sentence.LATE : 10 * (was / 3) + was % 3;
                Sentence.is("from " + was + " to " + then, x.change(then / 3, then % 3), told);
                Sentence.is("RAIN", x.about(3), then / 3);
                Sentence.is("WIND", x.about(4), then % 3);
                Sentence.is("ACTS", x.about(9), was == then ? 0 : 1);
            }
        }
    }

    private static void anHour() {
        Sentence.terms("AN HOUR: THE HOUR is one more (0 behind 9).");
        EarFerry x = new EarFerry();
        for (int i = 1; i <= 41; i++) {
            Sentence.is("hour()", x.hour(), i % 10);
            Sentence.is("THE HOUR", x.about(2), i % 10);
        }
        x.undo();
        x.undo();
        Sentence.is("9 before 0, undone", x.about(2), 9);
    }

    private static void acts() {
        Sentence.terms("ACTS (ROWED, HUSHED, HAMMERED, CHANGED, HOURS) are a row (14 at most; when it is full,"
            + " the first one is forgotten);");
        for (int many = 0; many <= 30; many++) {
            EarFerry x = Due.on("R001S01090");
            for (int i = 0; i < many; i++) {
                x.hour();
            }
            Sentence.is("ACTS of " + many, x.about(9), Math.min(14, many));
            for (int left = Math.min(14, many) - 1; left >= 0; left--) {
                Sentence.is("undo()", x.undo(), left);
            }
            Sentence.is("no more", x.undo(), Sentence.LATE);
            Sentence.is("those before the last 14 stay", x.about(2), Math.max(0, many - 14) % 10);
        }
        firstIsForgotten();
    }

    /** The act that is forgotten is each of the five in turn: it stays, while all the others are undone. */
    private static void firstIsForgotten() {
        int[][] acts = {{0, 1}, {1, 0}, {2, 3}, {3, 11}, {4, 0}};
        int[] tells = {1, 5, 6, 3, 2};
        int[] stays = {5, 1, 1, 1, 1};
        for (int i = 0; i < 5; i++) {
            EarFerry x = Due.on("R401S01090");
            doAct(x, acts[i]);
            rowToAndFro(x, 7);
            Sentence.is("ACTS", x.about(9), 14);
            undoTimes(x, 14);
            Sentence.is("act " + i + " stays", x.about(tells[i]), stays[i]);
            Sentence.is("and can not be undone", x.undo(), Sentence.LATE);
        }
    }

    private static void rowToAndFro(EarFerry x, int times) {
        for (int i = 0; i < times; i++) {
            x.row(2);
            x.row(1);
        }
    }

    private static void undoTimes(EarFerry x, int times) {
        for (int i = 0; i < times; i++) {
            x.undo();
        }
    }

    private static void undone() {
        Sentence.terms("the last one can be undone.");
        EarFerry x = Due.on("R901S01090S01090");
        x.hammer(3);
        x.hammer(6);
        String before = aboutAll(x);
        int[][] acts = {{0, 2}, {1, 0}, {2, 3}, {2, 6}, {3, 42}, {4, 0}};
        for (int[] act : acts) {
            doAct(x, act);
            Sentence.is("one ACT more", x.about(9), 3);
            Sentence.is("undo()", x.undo(), 2);
            Sentence.holds("all as before act " + act[0], before.equals(aboutAll(x)));
        }
        Sentence.is("undo()", x.undo(), 1);
        Sentence.is("undo()", x.undo(), 0);
        Sentence.is("no HAMMERS", x.about(6), 0);
        Sentence.refused("none is left", EarFerry::new, y -> y.undo(), Sentence.LATE);
        EarFerry full = new EarFerry();
        for (int i = 0; i < 20; i++) {
            full.hour();
        }
        undoTimes(full, 2);
        Sentence.is("one more behind those undone", full.hour(), 9);
        Sentence.is("there are 13", full.about(9), 13);
        full.hammer(1);
        full.hammer(2);
        Sentence.is("14 again", full.about(9), 14);
        undoTimes(full, 14);
        Sentence.is("one more was forgotten", full.about(2), 7);
    }

    private static void doAct(EarFerry x, int[] act) {
        switch (act[0]) {
            case 0: x.row(act[1]); break;
            case 1: x.hush(act[1]); break;
            case 2: x.hammer(act[1]); break;
            case 3: x.change(act[1] / 10, act[1] % 10); break;
            default: x.hour(); break;
        }
    }

    private static String aboutAll(EarFerry x) {
        StringBuilder all = new StringBuilder();
        for (int what = 0; what <= 11; what++) {
            all.append(x.about(what)).append(' ');
        }
        return all.toString();
    }
}
