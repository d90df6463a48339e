import java.util.function.Supplier;
import java.util.function.ToIntFunction;

/** What the tests of single sentences share: the sentence that is tested, and what a refusal leaves as it was. */
final class Sentence {
    static final int UNKNOWN = -1, BAD = -2, LATE = -3, FULL = -4, NONE = -9;

    /** A call with one argument that varies. */
    interface Call {
        int of(EarFerry x, int v);
    }

    private static final Due DUE = new Due();
    private static final Document DOCUMENT = new Document(DUE);
    private static String tested = "";

    private Sentence() {
    }

    /** What follows tests these words of the document's terms. */
    static void terms(String words) {
        tested = words;
        DOCUMENT.quote("Terms", words);
    }

    /** What follows tests these words of a part of the document. */
    static void under(String heading, String words) {
        tested = heading + ": " + words;
        DOCUMENT.quote(heading, words);
    }

    static void promise(int number, String words) {
        under("Promise " + number, words);
    }

    static void nothingIsLeftOut(String heading) {
        DOCUMENT.allIsQuoted(heading);
    }

    static void end() {
        DUE.end();
    }

    static void is(String call, long got, long want) {
        DUE.is("[" + tested + "] " + call, got, want);
    }

    static void holds(String what, boolean so) {
        DUE.holds("[" + tested + "] " + what, so);
    }

    static void fraction(String call, int above, int below, int wantAbove, int wantBelow) {
        is(call + " above", above, wantAbove);
        is(call + " below", below, wantBelow);
    }

    /** Bits from the first to the last one. */
    static int bits(int first, int last) {
        int all = 0;
        for (int i = first; i <= last; i++) {
            all |= 1 << i;
        }
        return all;
    }

    /** Numbers that are not from least to most: next to them, far off, and such as are in it by their lower bits. */
    static int[] outside(int least, int most) {
        return new int[] {least - 1, most + 1, least - 10, most + 10, most + 256 - most % 16, least + 256, least + 65536,
            least - 256, Integer.MIN_VALUE, Integer.MIN_VALUE + least, Integer.MIN_VALUE + most, Integer.MAX_VALUE,
            Integer.MAX_VALUE - 1};
    }

    /** An object in which there is something of everything: 9 acts, both slots, hammers 7 and 9, two things seen. */
    static EarFerry busy() {
        EarFerry x = Due.on("R401S13090S84251S53693");
        x.hammer(2);
        x.hammer(7);
        x.keep(0);
        x.row(1);
        x.hush(1);
        x.change(1, 2);
        x.hour();
        x.hammer(2);
        x.keep(1);
        x.hour();
        x.hammer(9);
        x.see(0, 1, 0, true);
        x.see(2, 9, 3, false);
        x.seed(77);
        Due.text(x, "R2");
        return x;
    }

    /** The call is refused so, and the object is as one to which it was never made. */
    static void refused(String call, Supplier<EarFerry> made, ToIntFunction<EarFerry> calls, int want) {
        is(call, calls.applyAsInt(made.get()), want);
        changesNothing(call, made, calls);
    }

    static void changesNothing(String call, Supplier<EarFerry> made, ToIntFunction<EarFerry> calls) {
        EarFerry x = made.get();
        calls.applyAsInt(x);
        String got = takenApart(x);
        String want = takenApart(made.get());
        holds(call + " changes nothing: " + got + " was " + want, got.equals(want));
    }

    /** On the busy object all from least to most is taken, all else is refused so. */
    static void range(String call, int least, int most, Call calls, int refusal) {
        for (int v = least; v <= most; v++) {
            holds(call + " takes " + v, calls.of(busy(), v) != refusal);
        }
        for (int v : outside(least, most)) {
            refused(call + " with " + v, Sentence::busy, x -> calls.of(x, v), refusal);
        }
    }

    /** All that an object tells while it is taken apart: its acts are undone, its slots gone on from, its text read. */
    static String takenApart(EarFerry x) {
        StringBuilder all = new StringBuilder();
        tell(all, x, 0, 11);
        tellSounds(all, x);
        all.append("weather ").append(x.weather(0)).append(' ').append(x.weather(1));
        all.append(" seed ").append(x.seed(0));
        for (int i = 0; i < 15; i++) {
            all.append(" undo ").append(x.undo()).append(' ');
            tell(all, x, 1, 9);
        }
        for (int slot = 0; slot < 2; slot++) {
            all.append("again ").append(x.again(slot)).append(' ');
            tell(all, x, 1, 9);
        }
        tellText(all, x);
        return all.toString();
    }

    private static void tell(StringBuilder all, EarFerry x, int first, int last) {
        for (int what = first; what <= last; what++) {
            all.append(x.about(what)).append(' ');
        }
    }

    private static void tellSounds(StringBuilder all, EarFerry x) {
        for (int sound = 0; sound < x.about(0); sound++) {
            for (int what = 0; what <= 5; what++) {
                all.append(x.sound(sound, what)).append(' ');
            }
        }
    }

    /** What the text is can only be seen by the river that it makes; the busy one's lacks two bytes for that. */
    private static void tellText(StringBuilder all, EarFerry x) {
        all.append("text ").append(x.fault()).append(' ').append(x.river()).append(' ');
        all.append(x.write('0')).append(' ').append(x.write('1')).append(' ').append(x.river()).append(' ');
        tell(all, x, 0, 4);
        tellSounds(all, x);
    }
}
