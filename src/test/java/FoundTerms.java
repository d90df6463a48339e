/** The terms of what is found: grounded, seen, weather, rivals, chance, days, slots. */
final class FoundTerms {
    private FoundTerms() {
    }

    static void test() {
        whistled();
        whistledAndHeard();
        groundedNotInItsSet();
        groundedSetOfT();
        groundedElse();
        seen();
        seenSixAtMost();
        seenOfSoundsThatAreNot();
        weather();
        weatherFirst();
        weatherNone();
        rivalsInPlaceOfThose();
        rivalsAtUnlikeCells();
        rivalsWant();
        rivalsNumbered();
        rivalsAtRest();
        rivalsFirst();
        rivalsNone();
        chanceByTenths();
        chanceOfACell();
        daysFromNow();
        daysSeed();
        daysFailing();
        daysSure();
        daysHourGoesBy();
        daysChangeNothing();
        slots();
        slotsNoActs();
    }

    /** Cells from which what is so loud by this weather is heard at g. */
    private static int whistledFrom(int g, int loud, int rain, int wind) {
        int cells = 0;
        for (int cell = 0; cell <= 9; cell++) {
            int far = Math.abs(g - (cell + wind - 1));
            cells += rain + far < loud ? 1 << cell : 0;
        }
        return cells;
    }

    private static void whistled() {
        Sentence.terms("GROUNDED: he took CELL g for CELL t at an HOUR, as somebody whistled at a CELL,"
            + " like a PLAIN SOUND that is l loud (1 .. 9) at all HOURS;");
        Sentence.range("grounded, l", 1, 9, (x, loud) -> x.grounded(0, 0, 1, 0, loud), Sentence.BAD);
        for (int weather = 0; weather < 15; weather++) {
            int rain = weather / 3;
            int wind = weather % 3;
            // Deep and 1 loud: heard at one cell alone, by any rain.
            int t = 5 + wind - 1;
            for (int g = 0; g <= 9; g++) {
                EarFerry x = Due.on("R0" + rain + wind + "S51091");
                for (int loud = 1; loud <= 9; loud++) {
                    int want = g == t ? 0 : whistledFrom(g, loud, rain, wind);
                    Sentence.is("at " + g + ", " + loud + " loud, weather " + weather, x.grounded(0, g, t, 0, loud), want);
                    Sentence.is("at hour 9", x.grounded(0, g, t, 9, loud), want);
                }
            }
        }
    }

    private static void whistledAndHeard() {
        Sentence.terms("at g it was HEARD, and taken for SOUND s: CELLS (bits) at which it may have been whistled:"
            + " those from which it is HEARD at g,");
        EarFerry x = Due.on("R001S51091");
        Sentence.is("1 loud: at g alone", x.grounded(0, 0, 5, 0, 1), Sentence.bits(0, 0));
        Sentence.is("2 loud at the first cell", x.grounded(0, 0, 5, 0, 2), Sentence.bits(0, 1));
        Sentence.is("2 loud at the last cell", x.grounded(0, 9, 5, 0, 2), Sentence.bits(8, 9));
        Sentence.is("9 loud at the first cell", x.grounded(0, 0, 5, 0, 9), Sentence.bits(0, 8));
        x.change(4, 1);
        Sentence.is("4 loud by rain 4: from nowhere", x.grounded(0, 0, 5, 0, 4), 0);
        Sentence.is("5 loud by rain 4", x.grounded(0, 0, 5, 0, 5), Sentence.bits(0, 0));
        x.change(0, 0);
        Sentence.is("from 0 it seems at -1: from 1 it is heard at 0", x.grounded(0, 0, 4, 0, 1), Sentence.bits(1, 1));
        Sentence.is("at 9 from nowhere: there is no 10", x.grounded(0, 9, 4, 0, 1), 0);
        x.change(0, 2);
        Sentence.is("at 0 from nowhere: there is no -1", x.grounded(0, 0, 6, 0, 1), 0);
        Sentence.is("at 9 from 8", x.grounded(0, 9, 6, 0, 1), Sentence.bits(8, 8));
    }

    private static void groundedNotInItsSet() {
        Sentence.terms("if s is not in the SET of g,");
        EarFerry x = Due.on("R001S52090S12090");
        Sentence.is("not in the set of 9", x.grounded(0, 9, 5, 0, 1), Sentence.bits(9, 9));
        Sentence.is("in the set of 4, which is that of 5", x.grounded(0, 4, 5, 0, 1), 0);
        Sentence.is("in the set of 5, taken for itself", x.grounded(0, 5, 5, 0, 1), 0);
        x.hush(0);
        Sentence.is("hushed: in no set, not in that of t either", x.grounded(0, 9, 5, 0, 1), 0);
    }

    private static void groundedSetOfT() {
        Sentence.terms("and that SET with s is the SET of t;");
        // 0 at 4 .. 6, 1 at 6 .. 8, from hour 3 on.
        EarFerry x = Due.on("R001S52090S72390");
        Sentence.is("nothing and 0", x.grounded(0, 9, 5, 0, 1), Sentence.bits(9, 9));
        Sentence.is("at 6 there is 1 too", x.grounded(0, 9, 6, 3, 1), 0);
        Sentence.is("before hour 3 not", x.grounded(0, 9, 6, 2, 1), Sentence.bits(9, 9));
        Sentence.is("1 and 0", x.grounded(0, 7, 6, 3, 1), Sentence.bits(7, 7));
        Sentence.is("0 and 1", x.grounded(1, 5, 6, 3, 1), Sentence.bits(5, 5));
        Sentence.is("1 and 0 is more than 0", x.grounded(0, 7, 5, 3, 1), 0);
        x.hammer(9);
        Sentence.is("a hammer at g and not at t", x.grounded(0, 9, 5, 0, 1), 0);
        x.hammer(9);
        x.hammer(3);
        Sentence.is("a hammer at t and not at g", x.grounded(0, 9, 5, 0, 1), 0);
        Sentence.is("a hammer at both", x.grounded(0, 3, 5, 0, 1), Sentence.bits(3, 3));
    }

    private static void groundedElse() {
        Sentence.terms("0: else.");
        EarFerry x = Due.on("R001S52090");
        for (int g = 0; g <= 9; g++) {
            for (int t = 0; t <= 9; t++) {
                boolean fits = (g < 4 || g > 6) && t >= 4 && t <= 6;
                Sentence.is("g " + g + ", t " + t, x.grounded(0, g, t, 7, 9), fits ? whistledFrom(g, 9, 0, 1) : 0);
            }
        }
        EarFerry y = Due.on("R001S52560");
        Sentence.is("it is not there at that hour", y.grounded(0, 9, 5, 4, 9), 0);
        Sentence.is("it is there", y.grounded(0, 9, 5, 5, 1), Sentence.bits(9, 9));
    }

    private static void seen() {
        Sentence.terms("SEEN: that at a CELL, at an HOUR (0 .. 9) a SOUND was HEARD, or was not:");
        Sentence.range("see, cell", 0, 9, (x, cell) -> x.see(0, cell, 0, true), Sentence.BAD);
        Sentence.range("see, hour", 0, 9, (x, hour) -> x.see(0, 0, hour, false), Sentence.BAD);
        Sentence.range("see, sound", 0, 2, (x, sound) -> x.see(sound, 0, 0, false), Sentence.UNKNOWN);
        // Heard at hour 9 at 5 by a calm alone.
        EarFerry x = Due.on("R001S51991");
        x.see(0, 5, 9, true);
        Sentence.is("heard at hour 9", x.weather(0), 5);
        Sentence.is("by wind 1", x.weather(1), 1);
        x.unsee();
        x.see(0, 5, 9, false);
        Sentence.is("not heard at hour 9", x.weather(0), 10);
        Sentence.is("by wind 0", x.weather(1), 0);
        x.unsee();
        x.see(0, 5, 8, false);
        Sentence.is("not heard at hour 8, by any", x.weather(0), 15);
    }

    private static EarFerry sawSix() {
        EarFerry x = Due.on("R001S51091");
        for (int i = 0; i < 6; i++) {
            x.see(0, 5, i, true);
        }
        return x;
    }

    private static void seenSixAtMost() {
        Sentence.terms("6 such at most, none at first");
        Sentence.is("none at first", new EarFerry().about(10), 0);
        Sentence.is("by which all weather is so", new EarFerry().weather(0), 15);
        EarFerry x = Due.on("R001S51091S51090");
        for (int i = 1; i <= 6; i++) {
            Sentence.is("see", x.see(0, 5, i, true), i);
        }
        Sentence.is("the like one counts too: six", x.about(10), 6);
        Sentence.refused("a seventh", FoundTerms::sawSix, y -> y.see(0, 5, 0, true), Sentence.FULL);
        Sentence.refused("a seventh that would not be so", FoundTerms::sawSix, y -> y.see(0, 5, 0, false),
            Sentence.FULL);
        EarFerry last = Due.on("R001S51091");
        for (int i = 0; i < 5; i++) {
            last.see(0, 5, 0, true);
        }
        Sentence.is("five", last.weather(0), 5);
        last.see(0, 5, 0, false);
        Sentence.is("the sixth is looked at", last.weather(0), 0);
    }

    private static void seenOfSoundsThatAreNot() {
        Sentence.terms("(of SOUNDS that there are not any more nothing is looked at).");
        EarFerry x = Due.on("R001S51091S51091");
        x.see(1, 5, 0, true);
        x.see(1, 5, 0, false);
        Sentence.is("no weather is so", x.weather(0), 0);
        Due.text(x, "R001S51091");
        x.river();
        Sentence.is("1 is not there any more: all is so", x.weather(0), 15);
        Sentence.is("the first one", x.weather(1), 0);
        Sentence.is("SEEN stays", x.about(10), 2);
        x.see(0, 5, 0, true);
        Sentence.is("0 is looked at", x.weather(0), 5);
        Due.text(x, "R001");
        x.river();
        Sentence.is("none is there", x.weather(0), 15);
        Sentence.is("SEEN stays", x.about(10), 3);
        Sentence.is("nothing can be seen", x.see(0, 5, 0, true), Sentence.UNKNOWN);
    }

    private static void weatherIs(EarFerry x, int many, int first) {
        Sentence.is("weather(0)", x.weather(0), many);
        Sentence.is("weather(1)", x.weather(1), first);
    }

    /** In each weather something of each sound is seen, as it is by that weather. */
    private static void weather() {
        Sentence.terms("WEATHER: pairs of RAIN (0 .. 4) and WIND (0 .. 2) by which all that was SEEN is so"
            + " (as HUSHED now): how many;");
        String parts = "S54090S37091S69092S25493";
        for (int truth = 0; truth < 15; truth++) {
            int[][] seen = {{0, 3, 0, 0}, {1, 8, 3, 0}, {2, 9, 9, 0}, {3, 4, 4, 0}, {truth % 4, 6, 5, 0}, {3, 4, 3, 0}};
            EarFerry there = Due.on("R0" + truth / 3 + truth % 3 + parts);
            EarFerry x = Due.on("R001" + parts);
            for (int[] one : seen) {
                one[3] = there.heard(one[1], one[2]) >> one[0] & 1;
                x.see(one[0], one[1], one[2], one[3] == 1);
            }
            int[] want = Tried.weather(parts, 0, seen);
            Sentence.holds("it can be as it is", want[0] >= 1);
            weatherIs(x, want[0], want[1]);
            x.change(4, 2);
            weatherIs(x, want[0], want[1]);
            x.hush(2);
            int[] wantHushed = Tried.weather(parts, 4, seen);
            weatherIs(x, wantHushed[0], wantHushed[1]);
        }
    }

    /** 0 deep and 1 loud: where it is heard tells the wind. 1 .. 4 are 1 .. 4 loud: they tell the rain at cell 5. */
    private static void weatherFirst() {
        Sentence.terms("the first one (10 times RAIN, and WIND);");
        for (int rain = 0; rain <= 4; rain++) {
            for (int wind = 0; wind <= 2; wind++) {
                EarFerry x = Due.on("R001S51091S51093S52093S53093S54093");
                x.see(0, 5 + wind - 1, 0, true);
                weatherIs(x, 5, wind);
                if (rain > 0) {
                    x.see(rain, 5, 0, false);
                }
                weatherIs(x, 5 - rain, 10 * rain + wind);
                if (rain < 4) {
                    x.see(rain + 1, 5, 0, true);
                }
                weatherIs(x, 1, 10 * rain + wind);
            }
        }
    }

    private static void weatherNone() {
        Sentence.terms("(10 times RAIN, and WIND); NONE.");
        EarFerry x = Due.on("R001S51091");
        x.see(0, 5, 0, true);
        x.see(0, 6, 0, true);
        weatherIs(x, 0, Sentence.NONE);
        x.unsee();
        weatherIs(x, 15, 0);
        x.see(0, 5, 0, true);
        x.hush(0);
        weatherIs(x, 0, Sentence.NONE);
    }

    private static void rivalsAre(EarFerry x, int hour, int many, int first) {
        Sentence.is("rivals(" + hour + ", 0)", x.rivals(hour, 0), many);
        Sentence.is("rivals(" + hour + ", 1)", x.rivals(hour, 1), first);
    }

    private static void rivalsInPlaceOfThose() {
        Sentence.terms("RIVALS at an HOUR: one HAMMER his, one the rival's (in place of those of now),"
            + " each at a CELL or nowhere (10),");
        // By rain 1 and this wind a hammer at 0 is heard at 0 alone: his is there, the rival's is nowhere.
        EarFerry x = Due.on("R010");
        rivalsAre(x, 0, 1, 10);
        x.hammer(0);
        rivalsAre(x, 0, 1, 10);
        x.hammer(5);
        rivalsAre(x, 9, 1, 10);
        EarFerry y = Due.on("R012");
        rivalsAre(y, 0, 1, 11 * 9 + 10);
    }

    private static void rivalsAtUnlikeCells() {
        Sentence.terms("at unlike CELLS but for nowhere:");
        // No hammer is heard by rain 4: all pairs that can be are at rest: 10 times 10, less 10 at like cells, and 21.
        rivalsAre(Due.on("R041"), 0, 90 + 21, 1);
        EarFerry all = Due.on("R001S33090S43090S53090S63090S73090");
        rivalsAre(all, 0, 90 + 21, 1);
    }

    private static void rivalsWant() {
        Sentence.terms("he wants many SURE CELLS, the rival few;");
        // The sound is heard at 0 and 1: his hammer at 3 parts all he can, the rival's would only help.
        EarFerry x = Due.on("R001S02090");
        int most = 0;
        for (int cell = 0; cell <= 9; cell++) {
            most = Math.max(most, Tried.sureCount("R001S02090", 0, 0, cell));
        }
        int first = x.rivals(0, 1);
        int[] pair = {first / 11, first % 11};
        Sentence.is("he has the most", Tried.sureCount("R001S02090", 0, 0, pair), most);
        for (int his = 0; his <= 10; his++) {
            for (int rival = 0; rival <= 9; rival++) {
                if (his != rival) {
                    Sentence.holds("a rival's hammer never makes them fewer",
                        Tried.sureCount("R001S02090", 0, 0, his, rival) >= Tried.sureCount("R001S02090", 0, 0, his));
                }
            }
        }
    }

    /** Which number each has can not be seen in how many are sure: it is all one who came first. */
    private static void rivalsNumbered() {
        Sentence.terms("his is numbered 6, the rival's 7:");
        for (int his = 0; his <= 9; his++) {
            for (int rival = 0; rival < his; rival++) {
                Sentence.is("sure by " + his + " and " + rival, Tried.sure("R010S54090", 0, 0, his, rival),
                    Tried.sure("R010S54090", 0, 0, rival, his));
            }
        }
    }

    private static void rivalsAtRest() {
        Sentence.terms("pairs in which neither does better by another choice alone (one that can be): how many;");
        for (String river : HeardTerms.RIVERS) {
            for (int hour = 0; hour <= 9; hour += 4) {
                int[] want = Tried.rivals(river, hour, 0);
                rivalsAre(Due.on(river), hour, want[0], want[1]);
            }
        }
        EarFerry x = Due.on(HeardTerms.RIVERS[10]);
        x.hush(0);
        x.hush(4);
        int[] want = Tried.rivals(HeardTerms.RIVERS[10], 5, 17);
        rivalsAre(x, 5, want[0], want[1]);
    }

    private static void rivalsFirst() {
        Sentence.terms("the first one (11 times his and the rival's);");
        rivalsAre(new EarFerry(), 3, 11, 10);
        rivalsAre(Due.on("R010"), 0, 1, 11 * 0 + 10);
        rivalsAre(Due.on("R012"), 0, 1, 11 * 9 + 10);
        rivalsAre(Due.on("R041"), 0, 111, 11 * 0 + 1);
    }

    /** A rival who stays away is always at rest by the best of his: there is always a pair. */
    private static void rivalsNone() {
        Sentence.terms("(11 times his and the rival's); NONE.");
        for (String river : HeardTerms.RIVERS) {
            for (int hour = 0; hour <= 9; hour++) {
                EarFerry x = Due.on(river);
                Sentence.holds("there is one", x.rivals(hour, 0) >= 1);
                Sentence.holds("there is a first one", x.rivals(hour, 1) >= 0 && x.rivals(hour, 1) <= 120);
            }
        }
    }

    private static void chanceIs(EarFerry x, int cell, int hour, int tenths, int... want) {
        Sentence.fraction("chance(" + cell + ", " + hour + ", " + tenths + ")", x.chance(cell, hour, tenths, true),
            x.chance(cell, hour, tenths, false), want[0], want[1]);
    }

    private static void chanceByTenths() {
        Sentence.terms("CHANCE: each SOUND that is not HUSHED fails by x tenths (0 .. 10), by itself:");
        Sentence.range("chance, x", 0, 10, (x, tenths) -> x.chance(0, 0, tenths, true), Sentence.BAD);
        // Cell 0 is sure if sound 0 does not fail; cell 1 if neither does.
        EarFerry x = Due.on("R001S01090S02090");
        chanceIs(x, 0, 0, 0, 1, 1);
        chanceIs(x, 0, 0, 1, 9, 10);
        chanceIs(x, 0, 0, 9, 1, 10);
        chanceIs(x, 0, 0, 10, 0, 1);
        chanceIs(x, 1, 0, 0, 1, 1);
        chanceIs(x, 1, 0, 1, 81, 100);
        chanceIs(x, 1, 0, 9, 1, 100);
        chanceIs(x, 1, 0, 10, 0, 1);
        x.hush(1);
        chanceIs(x, 0, 0, 3, 7, 10);
        chanceIs(x, 1, 0, 0, 0, 1);
        x.hush(0);
        chanceIs(x, 0, 0, 0, 0, 1);
        EarFerry hammered = new EarFerry();
        hammered.hammer(0);
        hammered.hammer(1);
        chanceIs(hammered, 3, 9, 10, 1, 1);
        chanceIs(hammered, 2, 9, 10, 0, 1);
    }

    private static void chanceOfACell() {
        Sentence.terms("that a CELL is SURE at an HOUR: a FRACTION.");
        for (String river : HeardTerms.RIVERS) {
            for (int cell = 0; cell <= 9; cell++) {
                EarFerry x = Due.on(river);
                int[] want = Tried.chance(river, cell, cell, 10 - cell, 0);
                chanceIs(x, cell, cell, 10 - cell, want);
                x.hammer(6);
                x.hammer(2);
                int[] hammered = Tried.chance(river, cell, 5, 3, 0, 6, 2);
                chanceIs(x, cell, 5, 3, hammered);
            }
        }
        // Sure unless all six fail: 1 less 7 tenths six times.
        EarFerry six = Due.on("R001S01090S01090S01090S01090S01090S01090");
        chanceIs(six, 0, 0, 7, 882351, 1000000);
        chanceIs(six, 0, 0, 5, 63, 64);
        chanceIs(six, 0, 0, 0, 1, 1);
        chanceIs(six, 0, 0, 10, 0, 1);
        EarFerry at = Due.on("R001S01330");
        chanceIs(at, 0, 3, 5, 1, 2);
        chanceIs(at, 0, 2, 5, 0, 1);
    }

    private static void daysFromNow() {
        Sentence.terms("DAYS by THE SEED: m HOURS (1 .. 30) from now on,");
        Sentence.range("days", 1, 30, (x, m) -> x.days(m), Sentence.BAD);
        // By hammers alone 3 is sure at each hour.
        for (int m = 1; m <= 30; m++) {
            EarFerry x = Due.on("R301");
            x.hammer(0);
            x.hammer(1);
            Sentence.is("days(" + m + ")", x.days(m), m);
        }
        // Sure at hour 4 alone, if the sound does not fail.
        for (int hour = 0; hour <= 9; hour++) {
            EarFerry x = Due.on("R001S01440");
            for (int i = 0; i < hour; i++) {
                x.hour();
            }
            x.seed(12345);
            Sentence.is("from hour " + hour, x.days(7), Tried.days("R001S01440", 0, hour, 12345, 7, 0));
        }
    }

    private static void daysSeed() {
        Sentence.terms("at each x (THE SEED, a long; 0 at first) becomes x times 6364136223846793005"
            + " and 1442695040888963407 (64 bits, wrapping);");
        Sentence.is("0 at first", new EarFerry().seed(0), 0);
        long[] seeds = {0, 1, -1, 77, Long.MAX_VALUE, Long.MIN_VALUE, 6364136223846793005L, -1442695040888963407L};
        for (long seed : seeds) {
            EarFerry x = new EarFerry();
            x.seed(seed);
            x.days(1);
            long once = x.seed(seed);
            Sentence.is("after one hour", once, Tried.nextSeed(seed));
            x.days(30);
            long want = seed;
            for (int i = 0; i < 30; i++) {
                want = Tried.nextSeed(want);
            }
            Sentence.is("after 30 hours", x.seed(0), want);
        }
        EarFerry y = new EarFerry();
        y.days(1);
        Sentence.is("from 0", y.seed(0), 1442695040888963407L);
    }

    private static void daysFailing() {
        Sentence.terms("what is left of its upper 31 bits by 64 tells bits of SOUNDS that fail"
            + " (besides those that are HUSHED):");
        long[] seeds = {0, 1, -1, 5, Long.MAX_VALUE, Long.MIN_VALUE, -987654321987L};
        for (long seed : seeds) {
            for (int sound = 0; sound < 6; sound++) {
                // This one alone is heard, at cell 0 alone; the others are not there in the day.
                StringBuilder river = new StringBuilder("R001");
                for (int i = 0; i < 6; i++) {
                    river.append(i == sound ? "S01090" : "S91090");
                }
                EarFerry x = Due.on(river.toString());
                x.seed(seed);
                int works = 1 - (Tried.failing(Tried.nextSeed(seed)) >> sound & 1);
                Sentence.is("sound " + sound + " by seed " + seed, x.days(1), works);
                x.seed(seed);
                x.hush(sound);
                Sentence.is("hushed", x.days(30), 0);
            }
        }
    }

    private static void daysSure() {
        Sentence.terms("on how many the CELL of THE FERRY is SURE,");
        for (String river : HeardTerms.RIVERS) {
            for (int ferry = 0; ferry <= 9; ferry += 3) {
                String text = "R" + ferry + river.substring(2);
                EarFerry x = Due.on(text);
                x.seed(ferry * 1000003L);
                Sentence.is(text, x.days(30), Tried.days(text, ferry, 0, ferry * 1000003L, 30, 0));
                x.row(ferry == 9 ? 2 : 1);
                x.hammer(4);
                x.seed(-ferry);
                int at = ferry == 9 ? 8 : ferry + 1;
                Sentence.is(text + " rowed", x.days(11), Tried.days(text, at, 0, -ferry, 11, 0, 4));
            }
        }
    }

    private static void daysHourGoesBy() {
        Sentence.terms("then AN HOUR goes by.");
        // Sure at one hour alone: on how many of 30 days it does not fail.
        for (int hour = 0; hour <= 9; hour++) {
            String river = "R001S01" + hour + hour + "0";
            for (int now = 0; now <= 9; now++) {
                EarFerry x = Due.on(river);
                for (int i = 0; i < now; i++) {
                    x.hour();
                }
                x.seed(99);
                Sentence.is("at " + hour + " from " + now, x.days(10), Tried.days(river, 0, now, 99, 10, 0));
            }
        }
    }

    private static void daysChangeNothing() {
        Sentence.terms("(Nothing changes but THE SEED.)");
        Sentence.changesNothing("days(30), then the seed as it was", Sentence::busy, x -> {
            x.days(30);
            return (int) x.seed(77);
        });
        EarFerry x = Sentence.busy();
        x.days(1);
        Sentence.is("the seed", x.seed(0), Tried.nextSeed(77));
    }

    private static void slots() {
        Sentence.terms("SLOTS 0 .. 1 keep THE FERRY, THE HOUR, HUSHED ones, HAMMERS, RAIN, WIND");
        Sentence.range("keep", 0, 1, (x, slot) -> x.keep(slot), Sentence.UNKNOWN);
        Sentence.range("again", 0, 1, (x, slot) -> x.again(slot), Sentence.UNKNOWN);
        EarFerry x = Due.on("R942S01090S01090S01090S01090S01090S01090");
        x.keep(0);
        for (int sound = 0; sound < 6; sound++) {
            x.hush(sound);
        }
        for (int i = 0; i < 9; i++) {
            x.hour();
        }
        x.row(2);
        x.hammer(9);
        x.hammer(0);
        x.change(0, 0);
        x.keep(1);
        for (int i = 0; i < 2; i++) {
            Sentence.is("again(0)", x.again(0), 0);
            keptIs(x, 9, 0, 4, 2, 0, 0, Sentence.NONE, Sentence.NONE);
            Sentence.is("again(1)", x.again(1), 9);
            keptIs(x, 8, 9, 0, 0, 63, 2, 9, 0);
        }
    }

    private static void keptIs(EarFerry x, int... want) {
        for (int what = 1; what <= 8; what++) {
            Sentence.is("about(" + what + ")", x.about(what), want[what - 1]);
        }
    }

    private static void slotsNoActs() {
        Sentence.terms("(no ACTS when one goes on).");
        EarFerry x = new EarFerry();
        x.hour();
        x.hour();
        x.keep(0);
        Sentence.is("they stay when one keeps", x.about(9), 2);
        x.hour();
        x.again(0);
        Sentence.is("none", x.about(9), 0);
        Sentence.is("undo()", x.undo(), Sentence.LATE);
        Sentence.is("THE HOUR", x.about(2), 2);
        x.hour();
        Sentence.is("one more", x.about(9), 1);
        Sentence.is("undo()", x.undo(), 0);
        Sentence.is("as it was kept", x.about(2), 2);
    }
}
