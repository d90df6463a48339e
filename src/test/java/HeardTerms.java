/** The terms of what is asked without a change: where, when, spared, worth, fewest hammers, best hours. */
final class HeardTerms {
    static final String[] RIVERS = {
        "R001", "R012", "R041", "R001S01090", "R001S02090S11090S02090", "R010S74090S83092", "R020S96092",
        "R000S72091S71091", "R501S13090S84251S53693S73042", "R001S15090S05090S82090S51090S94090S55090",
        "R421S09491S92063S33592S62113S58090S27271", "R001S01090S01090S01090S01090S01090S01090"
    };

    private HeardTerms() {
    }

    static void test() {
        nothingIsChanged();
        hoursAreTold();
        allElseIsAsNow();
        where();
        when();
        spared();
        sparedOfLikeOnes();
        sparedNone();
        worthInEachOrder();
        worthWithHammers();
        worthInTheMean();
        worthIsNeverLessThanNothing();
        worthOfHushed();
        hammersInPlaceOfThose();
        hammersForN();
        hammersFirstCells();
        hammersNone();
        bestHoursBehindNine();
        bestHoursTogether();
        bestHoursOfLikeOnes();
        bestHoursHowMany();
    }

    private static void nothingIsChanged() {
        Sentence.terms("In what follows nothing is changed;");
        for (int i = 0; i <= 9; i++) {
            int v = i;
            Sentence.changesNothing("heard", Sentence::busy, x -> x.heard(v, v));
            Sentence.changesNothing("sure", Sentence::busy, x -> x.sure(v));
            Sentence.changesNothing("where", Sentence::busy, x -> x.where(x.heard(v, v), v));
            Sentence.changesNothing("when", Sentence::busy, x -> x.when(x.heard(v, v), v));
            Sentence.changesNothing("spared", Sentence::busy, x -> x.spared(v));
            Sentence.changesNothing("worth", Sentence::busy, x -> x.worth(v % 3, v, v % 2 == 0));
            Sentence.changesNothing("hammers", Sentence::busy, x -> x.hammers(v, v + 1, v % 2));
            Sentence.changesNothing("bestHours", Sentence::busy, x -> x.bestHours(v + 1, v % 2));
            Sentence.changesNothing("grounded", Sentence::busy, x -> x.grounded(0, v, 9 - v, v, 5));
            Sentence.changesNothing("weather", Sentence::busy, x -> x.weather(v % 2));
            Sentence.changesNothing("rivals", Sentence::busy, x -> x.rivals(v, v % 2));
            Sentence.changesNothing("chance", Sentence::busy, x -> x.chance(v, v, v, v % 2 == 0));
        }
    }

    /** All that is asked by hours, as one text. */
    private static String asked(EarFerry x) {
        StringBuilder all = new StringBuilder();
        for (int hour = 0; hour <= 9; hour++) {
            all.append(x.sure(hour)).append(' ').append(x.where(1, hour)).append(' ').append(x.spared(hour)).append(' ');
            all.append(x.worth(0, hour, true)).append(' ').append(x.hammers(hour, 4, 1)).append(' ');
            all.append(x.rivals(hour, 1)).append(' ').append(x.chance(hour, hour, 3, true)).append(' ');
            all.append(x.grounded(0, 9, hour, hour, 5)).append(' ').append(x.bestHours(hour + 1, 0)).append(' ');
            all.append(x.when(1, hour)).append(' ').append(x.heard(hour, hour)).append('\n');
        }
        return all.toString();
    }

    private static void hoursAreTold() {
        Sentence.terms("HOURS are told,");
        for (int now = 0; now <= 9; now++) {
            EarFerry x = Due.on("R501S13090S84251S53693S73042");
            String atFirst = asked(x);
            for (int i = 0; i < now; i++) {
                x.hour();
            }
            Sentence.holds("it is all one whether it is " + now + " now", atFirst.equals(asked(x)));
            x.row(1);
            Sentence.holds("and where the ferry is", atFirst.equals(asked(x)));
        }
    }

    private static void allElseIsAsNow() {
        Sentence.terms("all else is as it is now.");
        EarFerry x = Due.on("R001S52090S58491");
        Sentence.is("as told", x.where(1, 9), 0);
        Sentence.is("as told", x.where(3, 9), Sentence.bits(4, 6));
        x.change(1, 2);
        Sentence.is("by the rain and the wind of now", x.where(3, 9), Sentence.bits(6, 6));
        x.hush(1);
        Sentence.is("hushed as now", x.where(1, 9), Sentence.bits(6, 6));
        x.hammer(7);
        Sentence.is("hammers as now, at another hour too", x.where(64, 3), Sentence.bits(7, 9));
        x.undo();
        x.undo();
        x.undo();
        Sentence.is("undone", x.where(3, 9), Sentence.bits(4, 6));
    }

    private static void where() {
        Sentence.terms("WHERE by a SET and an HOUR: CELLS (bits) that have it.");
        for (String river : RIVERS) {
            for (int hour = 0; hour <= 9; hour += 3) {
                int cells = 0;
                EarFerry x = hammeredAtThreeAndEight(river);
                for (int set = 0; set < 256; set++) {
                    int there = x.where(set, hour);
                    cells += there;
                    if (there != 0) {
                        int first = Integer.numberOfTrailingZeros(there);
                        Sentence.is("the set of " + first, hammeredAtThreeAndEight(river).heard(first, hour), set);
                    }
                }
                Sentence.is("each cell has one set", cells, 1023);
            }
        }
        Sentence.is("nothing is heard anywhere", new EarFerry().where(0, 0), 1023);
        Sentence.is("all is heard nowhere", new EarFerry().where(255, 9), 0);
    }

    private static EarFerry hammeredAtThreeAndEight(String river) {
        EarFerry x = Due.on(river);
        x.hammer(3);
        x.hammer(8);
        return x;
    }

    private static void when() {
        Sentence.terms("WHEN by a SET at a CELL: HOURS (bits) at which it has it.");
        EarFerry x = Due.on("R001S51000S51990S51451");
        Sentence.is("the first hour alone", x.when(1, 5), Sentence.bits(0, 0));
        Sentence.is("the last hour alone", x.when(2, 5), Sentence.bits(9, 9));
        Sentence.is("two between", x.when(4, 5), Sentence.bits(4, 5));
        Sentence.is("nothing at the others", x.when(0, 5), 1023 & ~(1 | 512 | 48));
        Sentence.is("never", x.when(3, 5), 0);
        Sentence.is("always", x.when(0, 4), 1023);
        Sentence.is("all eight, never", x.when(255, 5), 0);
        x.hammer(5);
        x.hammer(4);
        Sentence.is("with hammers at the first hour", x.when(1 | 64 | 128, 5), 1);
        Sentence.is("without them never", x.when(1, 5), 0);
    }

    private static void spared() {
        Sentence.terms("SPARED: the SOUND (HUSHED ones not) without which fewest CELLS were SURE at an HOUR;");
        for (String river : RIVERS) {
            for (int hour = 0; hour <= 9; hour++) {
                Sentence.is(river + " spared(" + hour + ")", Due.on(river).spared(hour), Tried.spared(river, hour, 0));
            }
        }
        EarFerry x = Due.on("R001S91090S01090S01090");
        Sentence.is("without 0 only 0 is sure", x.spared(0), 0);
        x.hush(0);
        Sentence.is("a hushed one is not looked at", x.spared(0), 1);
        EarFerry y = Due.on("R001S02090S01090");
        Sentence.is("without 1 none is sure", y.spared(0), 1);
    }

    private static void sparedOfLikeOnes() {
        Sentence.terms("fewest CELLS were SURE at an HOUR; of like ones the least;");
        EarFerry x = Due.on("R001S01090S01090S01090S01090S01090S01090");
        for (int sound = 0; sound < 6; sound++) {
            Sentence.is("all are alike: the least that is not hushed", x.spared(0), sound);
            x.hush(sound);
        }
        EarFerry all = Due.on("R001S53090S53090S63090S63090S73090S73090");
        all.hammer(3);
        all.hammer(4);
        Sentence.is("all ten are sure without any one of them", all.spared(0), 0);
        Sentence.is("none is there at that hour", Due.on("R001S01120S92230").spared(0), 0);
    }

    private static void sparedNone() {
        Sentence.terms("of like ones the least; NONE: there is none.");
        Sentence.is("no sounds", new EarFerry().spared(0), Sentence.NONE);
        EarFerry x = Due.on("R001S01090S01090");
        x.hush(0);
        Sentence.is("one is left", x.spared(0), 1);
        x.hush(1);
        Sentence.is("all are hushed", x.spared(0), Sentence.NONE);
        x.hammer(5);
        Sentence.is("a hammer is none", x.spared(0), Sentence.NONE);
    }

    private static void worthIs(String river, int sound, int hour, int above, int below) {
        EarFerry x = Due.on(river);
        Sentence.fraction(river + " worth(" + sound + ", " + hour + ")", x.worth(sound, hour, true),
            x.worth(sound, hour, false), above, below);
    }

    private static void worthInEachOrder() {
        Sentence.terms("WORTH of a SOUND: if SOUNDS that are not HUSHED come one by one, in each order as likely");
        for (String river : RIVERS) {
            for (int sound = 0; sound < Tried.soundsOf(river); sound++) {
                int[] want = Tried.worth(river, sound, 5, 0);
                worthIs(river, sound, 5, want[0], want[1]);
            }
        }
        worthIs("R001S01090S01090S01090S01090S01090S01090", 5, 0, 1, 6);
        worthIs("R001S15090S05090S82090S51090S94090S55090", 1, 0, 17, 60);
        worthIs("R001S01090", 0, 0, 1, 1);
    }

    private static void worthWithHammers() {
        Sentence.terms("(HAMMERS are there from the first on):");
        // Hammers at 0 and 3: 0 alone hears the first alone. A sound heard at 0 alone adds nothing then.
        EarFerry x = Due.on("R001S01090");
        x.hammer(0);
        x.hammer(3);
        Sentence.fraction("0 is sure before", x.worth(0, 0, true), x.worth(0, 0, false), 0, 1);
        x.hammer(3);
        Sentence.fraction("0 is not", x.worth(0, 0, true), x.worth(0, 0, false), 1, 1);
        // Hammers at 0 and 2: 3 and 4 hear the second alone; a sound at 4 parts them.
        EarFerry y = Due.on("R001S41090");
        Sentence.fraction("4 alone", y.worth(0, 0, true), y.worth(0, 0, false), 1, 1);
        y.hammer(0);
        y.hammer(2);
        Sentence.fraction("3 and 4", y.worth(0, 0, true), y.worth(0, 0, false), 2, 1);
        String six = RIVERS[9];
        EarFerry z = Due.on(six);
        z.hammer(6);
        z.hammer(2);
        for (int sound = 0; sound < 6; sound++) {
            int[] want = Tried.worth(six, sound, 0, 0, 6, 2);
            Sentence.fraction("of six", z.worth(sound, 0, true), z.worth(sound, 0, false), want[0], want[1]);
        }
    }

    private static void worthInTheMean() {
        Sentence.terms("by how many in the mean SURE CELLS are more when it has come than they were,"
            + " at an HOUR: a FRACTION");
        // Alone 0 makes cell 0 sure; 1 makes none; both make 0 and 1 sure.
        worthIs("R001S01090S02090", 0, 0, 3, 2);
        worthIs("R001S01090S02090", 1, 0, 1, 2);
        for (String river : RIVERS) {
            for (int hour = 0; hour <= 9; hour++) {
                EarFerry x = Due.on(river);
                int sum = 0;
                for (int sound = 0; sound < Tried.soundsOf(river); sound++) {
                    sum += x.worth(sound, hour, true) * (720 / x.worth(sound, hour, false));
                }
                int gained = Tried.sureCount(river, hour, 0) - Tried.sureCount(river, hour, 63);
                Sentence.is(river + ": all together at " + hour + ", 720 times", sum, 720 * gained);
            }
        }
    }

    /** A sound can only part cells, so that no worth is less than 0: the lower one is 1 or more in any case. */
    private static void worthIsNeverLessThanNothing() {
        Sentence.terms("(less than 0: the upper one is);");
        for (String river : RIVERS) {
            for (int hour = 0; hour <= 9; hour++) {
                EarFerry x = Due.on(river);
                x.hammer(hour);
                for (int sound = 0; sound < Tried.soundsOf(river); sound++) {
                    Sentence.holds("above", x.worth(sound, hour, true) >= 0);
                    Sentence.holds("below", x.worth(sound, hour, false) >= 1);
                }
            }
        }
    }

    private static void worthOfHushed() {
        Sentence.terms("0, if it is HUSHED.");
        String river = RIVERS[9];
        for (int hushed = 1; hushed < 64; hushed += 6) {
            EarFerry x = Due.on(river);
            for (int sound = 0; sound < 6; sound++) {
                if ((hushed >> sound) % 2 == 1) {
                    x.hush(sound);
                }
            }
            for (int sound = 0; sound < 6; sound++) {
                boolean still = (hushed >> sound) % 2 == 1;
                int[] want = still ? new int[] {0, 1} : Tried.worth(river, sound, 0, hushed);
                Sentence.fraction("worth of " + sound + ", hushed " + hushed, x.worth(sound, 0, true),
                    x.worth(sound, 0, false), want[0], want[1]);
            }
        }
    }

    private static void hammersAre(EarFerry x, int hour, int n, int many, int cells) {
        Sentence.is("hammers(" + hour + ", " + n + ", 0)", x.hammers(hour, n, 0), many);
        Sentence.is("hammers(" + hour + ", " + n + ", 1)", x.hammers(hour, n, 1), cells);
    }

    private static void hammersInPlaceOfThose() {
        Sentence.terms("FEWEST HAMMERS at an HOUR, in place of those of now (0 .. 2),");
        EarFerry x = Due.on("R010");
        hammersAre(x, 0, 1, 1, 0);
        x.hammer(0);
        Sentence.is("it is sure by that of now", x.sure(0), 1);
        hammersAre(x, 0, 1, 1, 0);
        x.hammer(6);
        hammersAre(x, 0, 1, 1, 0);
        x.hammer(0);
        hammersAre(x, 0, 1, 1, 0);
    }

    private static void hammersForN() {
        Sentence.terms("so that n CELLS (1 .. 10) or more are SURE: how many;");
        Sentence.range("hammers, n", 1, 10, (x, n) -> x.hammers(0, n, 0), Sentence.BAD);
        for (String river : RIVERS) {
            for (int n = 1; n <= 10; n++) {
                int[] want = Tried.fewestHammers(river, 5, n);
                hammersAre(Due.on(river), 5, n, want[0], want[1]);
            }
        }
        EarFerry all = Due.on("R001S33090S43090S53090S63090S73090");
        for (int n = 1; n <= 10; n++) {
            hammersAre(all, 0, n, 0, 0);
        }
        EarFerry ten = Due.on("R001S53090S53090S63090S63090S73090S73090");
        hammersAre(ten, 0, 10, 2, 34);
    }

    private static void hammersFirstCells() {
        Sentence.terms("the first such CELLS (one: its number; two: 10 times the lesser and the greater; 0: none);");
        // By rain 1 a hammer at 0 seems at -1 and is heard at 0 alone; by the other wind one at 9 at 9 alone.
        hammersAre(Due.on("R010"), 0, 1, 1, 0);
        hammersAre(Due.on("R012"), 0, 1, 1, 9);
        // Hammers at 0 and 1: 0 .. 1 and 0 .. 2 by the wind: 2 is alone.
        hammersAre(Due.on("R000"), 0, 1, 2, 1);
        hammersAre(Due.on("R010S74090S83092"), 0, 4, 2, 9);
        hammersAre(Due.on("R021S84093"), 0, 3, 2, 78);
        // The sound is heard at 7 .. 9, hammers at 7 and 8 alone: 7, 8, 9.
        hammersAre(Due.on("R020S96092"), 0, 3, 2, 89);
        hammersAre(Due.on("R001S01090"), 0, 1, 0, 0);
    }

    private static void hammersNone() {
        Sentence.terms("0: none); NONE.");
        hammersAre(new EarFerry(), 0, 10, Sentence.NONE, Sentence.NONE);
        EarFerry x = Due.on("R041");
        for (int n = 1; n <= 10; n++) {
            hammersAre(x, 9, n, Sentence.NONE, Sentence.NONE);
        }
        EarFerry y = Due.on("R020S96092");
        hammersAre(y, 0, 4, Sentence.NONE, Sentence.NONE);
    }

    private static void bestHoursAre(EarFerry x, int n, int from, int many) {
        Sentence.is("bestHours(" + n + ", 0)", x.bestHours(n, 0), from);
        Sentence.is("bestHours(" + n + ", 1)", x.bestHours(n, 1), many);
    }

    private static void bestHoursBehindNine() {
        Sentence.terms("BEST HOURS for n (1 .. 10) one behind the other (0 comes behind 9):");
        Sentence.range("bestHours, n", 1, 10, (x, n) -> x.bestHours(n, 0), Sentence.BAD);
        // One is sure at 9, one at 0.
        EarFerry x = Due.on("R001S01990S01000");
        bestHoursAre(x, 1, 0, 1);
        bestHoursAre(x, 2, 9, 2);
        bestHoursAre(x, 3, 8, 2);
        bestHoursAre(x, 9, 2, 2);
        bestHoursAre(x, 10, 0, 2);
    }

    private static void bestHoursTogether() {
        Sentence.terms("from which SURE CELLS of all of them together are most;");
        for (String river : RIVERS) {
            int[] counts = new int[10];
            for (int hour = 0; hour <= 9; hour++) {
                counts[hour] = Tried.sureCount(river, hour, 0);
            }
            for (int n = 1; n <= 10; n++) {
                int most = -1;
                int from = 10;
                for (int start = 0; start <= 9; start++) {
                    int sum = 0;
                    for (int hour = start; hour < start + n; hour++) {
                        sum += counts[hour > 9 ? hour - 10 : hour];
                    }
                    from = sum > most ? start : from;
                    most = Math.max(sum, most);
                }
                bestHoursAre(Due.on(river), n, from, most);
            }
        }
        // The one hour of two is less than two hours of one and of two.
        EarFerry x = Due.on("R001S01120S91110S01670S91670");
        bestHoursAre(x, 1, 1, 2);
        bestHoursAre(x, 2, 6, 4);
    }

    private static void bestHoursOfLikeOnes() {
        Sentence.terms("together are most; of like ones the least;");
        for (int n = 1; n <= 10; n++) {
            bestHoursAre(new EarFerry(), n, 0, 0);
            bestHoursAre(Due.on("R001S01090"), n, 0, n);
        }
        EarFerry x = Due.on("R001S01330S01770");
        bestHoursAre(x, 1, 3, 1);
        bestHoursAre(x, 4, 0, 1);
        bestHoursAre(x, 5, 3, 2);
    }

    private static void bestHoursHowMany() {
        Sentence.terms("of like ones the least; how many.");
        EarFerry all = Due.on("R001S33090S43090S53090S63090S73090");
        for (int n = 1; n <= 10; n++) {
            bestHoursAre(all, n, 0, 10 * n);
        }
        bestHoursAre(Due.on("R041"), 10, 0, 0);
    }
}
