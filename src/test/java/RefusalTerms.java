import java.nio.file.Files;
import java.nio.file.Path;
import java.util.function.ToIntFunction;

/** The terms of refusals and fractions, and what the interface says ahead of its calls. */
final class RefusalTerms {
    private RefusalTerms() {
    }

    static void test() throws Exception {
        numbers();
        unknown();
        whatIsToldFirst();
        changesNothing();
        none();
        fractions();
        interfaceSays();
    }

    private static void numbers() {
        Sentence.terms("REFUSALS: UNKNOWN -1 (there is no such SOUND, SLOT), BAD -2, LATE -3, FULL -4.");
        Sentence.is("UNKNOWN", EarFerry.UNKNOWN, -1);
        Sentence.is("BAD", EarFerry.BAD, -2);
        Sentence.is("LATE", EarFerry.LATE, -3);
        Sentence.is("FULL", EarFerry.FULL, -4);
    }

    private static void unknown() {
        Sentence.range("hush", 0, 2, (x, sound) -> x.hush(sound), -1);
        Sentence.range("sound", 0, 2, (x, sound) -> x.sound(sound, 0), -1);
        Sentence.range("worth", 0, 2, (x, sound) -> x.worth(sound, 0, true), -1);
        Sentence.range("grounded", 0, 2, (x, sound) -> x.grounded(sound, 0, 0, 0, 1), -1);
        Sentence.range("see", 0, 2, (x, sound) -> x.see(sound, 0, 0, true), -1);
        Sentence.range("keep", 0, 1, (x, slot) -> x.keep(slot), -1);
        Sentence.range("again", 0, 1, (x, slot) -> x.again(slot), -1);
        // Before there is a river there is no sound at all.
        Sentence.refused("hush(0)", EarFerry::new, x -> x.hush(0), -1);
        Sentence.refused("sound(0, 5)", EarFerry::new, x -> x.sound(0, 5), -1);
        Sentence.refused("worth(0, 0, true)", EarFerry::new, x -> x.worth(0, 0, true), -1);
        Sentence.refused("grounded(0, 0, 0, 0, 1)", EarFerry::new, x -> x.grounded(0, 0, 0, 0, 1), -1);
        Sentence.refused("see(0, 0, 0, true)", EarFerry::new, x -> x.see(0, 0, 0, true), -1);
    }

    /** A full text, at the last cell, with two hammers, six things seen, nothing kept. */
    private static EarFerry full() {
        EarFerry x = Due.on("R932S01090S01090S01090S01090S01090S01090");
        x.hammer(2);
        x.hammer(7);
        for (int i = 0; i < 6; i++) {
            x.see(i, i, i, true);
        }
        return x;
    }

    private static void first(String call, ToIntFunction<EarFerry> calls, int want) {
        Sentence.refused(call, RefusalTerms::full, calls, want);
    }

    private static void whatIsToldFirst() {
        Sentence.terms("Of several what is told first.");
        first("write: BAD, FULL", x -> x.write(256), -2);
        first("write: FULL alone", x -> x.write(255), -4);
        first("sound: UNKNOWN, BAD", x -> x.sound(6, 6), -1);
        first("sound: BAD alone", x -> x.sound(5, 6), -2);
        first("row: BAD, LATE", x -> x.row(3), -2);
        first("row: LATE alone", x -> x.row(1), -3);
        first("hammer: BAD, FULL", x -> x.hammer(10), -2);
        first("hammer: FULL alone", x -> x.hammer(9), -4);
        first("change: BAD, LATE", x -> x.change(3, 3), -2);
        first("change: BAD, LATE", x -> x.change(5, 2), -2);
        first("change: LATE alone", x -> x.change(3, 2), -3);
        first("worth: UNKNOWN, BAD", x -> x.worth(6, 10, true), -1);
        first("worth: BAD alone", x -> x.worth(5, 10, true), -2);
        first("grounded: UNKNOWN, BAD", x -> x.grounded(6, 10, 10, 10, 10), -1);
        first("grounded: UNKNOWN, BAD loud", x -> x.grounded(-1, 0, 0, 0, 0), -1);
        first("grounded: BAD alone", x -> x.grounded(5, 0, 0, 0, 0), -2);
        first("see: UNKNOWN, BAD, FULL", x -> x.see(6, 10, 10, true), -1);
        first("see: UNKNOWN, FULL", x -> x.see(6, 9, 9, true), -1);
        first("see: BAD, FULL", x -> x.see(5, 10, 9, true), -2);
        first("see: BAD, FULL", x -> x.see(5, 9, 10, true), -2);
        first("see: FULL alone", x -> x.see(5, 9, 9, true), -4);
        first("again: UNKNOWN, LATE", x -> x.again(2), -1);
        first("again: LATE alone", x -> x.again(1), -3);
    }

    private static void both(String call, ToIntFunction<EarFerry> calls, int want) {
        Sentence.refused(call, Sentence::busy, calls, want);
        Sentence.refused(call, RefusalTerms::full, calls, want);
    }

    private static void changesNothing() {
        Sentence.terms("What is refused changes nothing.");
        both("write(-1)", x -> x.write(-1), -2);
        both("about(12)", x -> x.about(12), -2);
        both("sound(7, 0)", x -> x.sound(7, 0), -1);
        both("sound(0, 9)", x -> x.sound(0, 9), -2);
        both("row(0)", x -> x.row(0), -2);
        both("hush(7)", x -> x.hush(7), -1);
        both("hammer(-1)", x -> x.hammer(-1), -2);
        both("hammer(1)", x -> x.hammer(1), -4);
        both("change(0, 3)", x -> x.change(0, 3), -2);
        both("change(as it is)", x -> x.change(x.about(3), x.about(4)), -3);
        both("heard(10, 0)", x -> x.heard(10, 0), -2);
        both("sure(10)", x -> x.sure(10), -2);
        both("where(256, 0)", x -> x.where(256, 0), -2);
        both("when(256, 0)", x -> x.when(256, 0), -2);
        both("spared(10)", x -> x.spared(10), -2);
        both("worth(0, 10)", x -> x.worth(0, 10, false), -2);
        both("hammers(0, 11, 0)", x -> x.hammers(0, 11, 0), -2);
        both("bestHours(11, 0)", x -> x.bestHours(11, 0), -2);
        both("grounded(0, 0, 0, 0, 10)", x -> x.grounded(0, 0, 0, 0, 10), -2);
        both("see(0, 0, 10)", x -> x.see(0, 0, 10, false), -2);
        both("weather(2)", x -> x.weather(2), -2);
        both("rivals(0, 2)", x -> x.rivals(0, 2), -2);
        both("chance(0, 0, 11)", x -> x.chance(0, 0, 11, true), -2);
        both("days(31): THE SEED too", x -> x.days(31), -2);
        both("days(0): THE SEED too", x -> x.days(0), -2);
        both("keep(2)", x -> x.keep(2), -1);
        both("again(-1): ACTS too", x -> x.again(-1), -1);
        first("again(0): ACTS too", x -> x.again(0), -3);
        Sentence.refused("river() of a text with a fault: what is kept too", Sentence::busy, x -> x.river(), -3);
        Sentence.refused("undo()", EarFerry::new, x -> x.undo(), -3);
    }

    private static void none() {
        Sentence.terms("NONE is -9.");
        Sentence.is("NONE", EarFerry.NONE, -9);
        EarFerry x = Due.on("R041");
        Sentence.is("fault()", x.fault(), -9);
        Sentence.is("about(7)", x.about(7), -9);
        Sentence.is("about(8)", x.about(8), -9);
        Sentence.is("spared(0)", x.spared(0), -9);
        Sentence.is("hammers(0, 1, 0)", x.hammers(0, 1, 0), -9);
        Sentence.is("hammers(0, 1, 1)", x.hammers(0, 1, 1), -9);
        EarFerry y = Due.on("R001S51090");
        y.see(0, 5, 0, true);
        y.see(0, 5, 0, false);
        Sentence.is("weather(1)", y.weather(1), -9);
    }

    private static void fractions() {
        Sentence.terms("FRACTIONS are told above (upper = true), below, in least terms.");
        EarFerry x = Due.on("R001S01090S02090");
        Sentence.is("3 over 2, above", x.worth(0, 0, true), 3);
        Sentence.is("3 over 2, below", x.worth(0, 0, false), 2);
        Sentence.is("64 over 100, above", x.chance(1, 0, 2, true), 16);
        Sentence.is("64 over 100, below", x.chance(1, 0, 2, false), 25);
        Sentence.fraction("nothing is 0 over 1", x.chance(9, 0, 2, true), x.chance(9, 0, 2, false), 0, 1);
        Sentence.fraction("all is 1 over 1", x.chance(0, 0, 0, true), x.chance(0, 0, 0, false), 1, 1);
        for (String river : HeardTerms.RIVERS) {
            EarFerry y = Due.on(river);
            for (int cell = 0; cell <= 9; cell++) {
                leastTerms(y.chance(cell, cell, 4, true), y.chance(cell, cell, 4, false));
            }
            for (int sound = 0; sound < Tried.soundsOf(river); sound++) {
                leastTerms(y.worth(sound, 5, true), y.worth(sound, 5, false));
            }
        }
    }

    private static void leastTerms(int above, int below) {
        Sentence.holds("below is 1 or more", below >= 1);
        for (int divisor = 2; divisor <= below; divisor++) {
            Sentence.holds(above + " over " + below, above % divisor != 0 || below % divisor != 0);
        }
    }

    private static void interfaceSays() throws Exception {
        String code = Files.readString(Path.of("src/main/java/EarFerry.java"));
        group(code, "the river", "write", "wipe", "fault", "river", "about", "sound");
        group(code, "acts", "row", "hush", "hammer", "change", "hour", "undo");
        group(code, "heard", "heard", "sure", "where", "when", "spared", "worth", "hammers", "bestHours");
        group(code, "found", "grounded", "see", "unsee", "weather", "rivals", "chance", "seed", "days");
        group(code, "slots", "keep", "again");
    }

    private static void group(String code, String name, String... calls) {
        Sentence.terms("Ahead of the calls `" + String.join("`, `", calls) + "` the interface says: ---- " + name + ".");
        int place = code.indexOf("// ---- " + name + "\n");
        Sentence.holds("the class says so", place >= 0);
        for (String call : calls) {
            int next = code.indexOf(" " + call + "(", Math.max(0, place));
            Sentence.holds(call + " comes in its turn", next > place);
            place = next;
        }
    }
}
