import java.util.Random;

/** Long runs of calls, drawn by fixed seeds, on the class and on the model: each answer is the same. */
public final class ModelTest {
    private static final int RUNS = 400;
    private static final int CALLS = 512;
    private static final Due DUE = new Due();
    private static final int[] ANSWERED = new int[31];
    private static final int[] FOUND = new int[31];

    private final Random random;
    private final int run;
    private final EarFerry x = new EarFerry();
    private final Model y = new Model();
    private int calls = 0;

    private ModelTest(int run) {
        this.run = run;
        this.random = new Random(run);
    }

    public static void main(String[] args) {
        for (int run = 0; run < RUNS && DUE.wrong() < 20; run++) {
            new ModelTest(run).all();
        }
        for (int call = 1; call <= 30; call++) {
            DUE.holds("call " + call + " was often made", ANSWERED[call] > 500);
            DUE.holds("call " + call + " often answered 1 or more", FOUND[call] > 100);
        }
        DUE.end();
    }

    private void all() {
        // Some runs keep to the first river, of no sounds.
        if (run % 16 != 0) {
            newRiver();
        }
        while (calls < CALLS) {
            one();
        }
    }

    private int pick(int most) {
        int draw = random.nextInt(60);
        if (draw == 0) {
            return -1;
        }
        if (draw == 1) {
            return most + 1;
        }
        if (draw == 2) {
            return random.nextInt();
        }
        return random.nextInt(most + 1);
    }

    private void told(int call, String what, long got, long want) {
        calls++;
        ANSWERED[call]++;
        FOUND[call] += want > 0 ? 1 : 0;
        DUE.is("run " + run + " call " + calls + ": " + what, got, want);
    }

    private void newRiver() {
        told(2, "wipe()", x.wipe(), y.wipe());
        StringBuilder text = new StringBuilder("R");
        text.append(random.nextInt(10)).append(random.nextInt(random.nextBoolean() ? 2 : 5)).append(random.nextInt(3));
        int sounds = random.nextInt(8);
        for (int i = 0; i < sounds; i++) {
            int from = random.nextBoolean() ? 0 : random.nextInt(10);
            int until = random.nextBoolean() ? 9 : from + random.nextInt(10 - from);
            text.append('S').append(random.nextInt(10)).append(1 + random.nextInt(random.nextBoolean() ? 4 : 9));
            text.append(from).append(until).append(random.nextInt(4));
        }
        if (random.nextInt(4) == 0) {
            text.setCharAt(random.nextInt(text.length()), (char) (40 + random.nextInt(50)));
        }
        for (int i = 0; i < text.length(); i++) {
            int letter = text.charAt(i);
            told(1, "write(" + letter + ")", x.write(letter), y.write(letter));
            if (random.nextInt(4) == 0) {
                told(3, "fault()", x.fault(), y.fault());
            }
        }
        told(3, "fault()", x.fault(), y.fault());
        told(4, "river()", x.river(), y.river());
        lookAll();
    }

    private void lookAll() {
        for (int what = 0; what < 12; what++) {
            told(5, "about(" + what + ")", x.about(what), y.about(what));
        }
    }

    private void one() {
        int call = random.nextInt(34);
        if (call >= 31) {
            act(7 + random.nextInt(5));
        } else if (call < 7) {
            text(call);
        } else if (call <= 12) {
            act(call);
        } else if (call <= 20) {
            hear(call);
        } else if (call <= 26) {
            find(call);
        } else {
            rest(call);
        }
    }

    private void text(int call) {
        if (call == 1) {
            int letter = random.nextInt(9) == 0 ? 255 + random.nextInt(3) : random.nextInt(100);
            told(1, "write(" + letter + ")", x.write(letter), y.write(letter));
        } else if (call == 3) {
            told(3, "fault()", x.fault(), y.fault());
        } else if (call == 4) {
            if (random.nextInt(3) == 0) {
                newRiver();
            } else if (random.nextInt(4) == 0) {
                told(4, "river()", x.river(), y.river());
            }
        } else if (call == 5) {
            int what = pick(11);
            told(5, "about(" + what + ")", x.about(what), y.about(what));
        } else if (call == 6) {
            int s = pick(5);
            int what = pick(5);
            told(6, "sound(" + s + ", " + what + ")", x.sound(s, what), y.sound(s, what));
        }
    }

    private void act(int call) {
        int a = pick(9);
        if (call == 7) {
            int way = random.nextInt(20) == 0 ? a : 1 + random.nextInt(2);
            told(7, "row(" + way + ")", x.row(way), y.row(way));
        } else if (call == 8) {
            int s = pick(5);
            told(8, "hush(" + s + ")", x.hush(s), y.hush(s));
        } else if (call == 9) {
            int cell = random.nextBoolean() ? a : Math.max(0, y.about(7 + random.nextInt(2)));
            told(9, "hammer(" + cell + ")", x.hammer(cell), y.hammer(cell));
        } else if (call == 10) {
            int rain = random.nextBoolean() ? pick(4) : 0;
            int wind = pick(2);
            told(10, "change(" + rain + ", " + wind + ")", x.change(rain, wind), y.change(rain, wind));
        } else if (call == 11) {
            told(11, "hour()", x.hour(), y.hour());
        } else {
            int times = 1 + random.nextInt(6);
            for (int i = 0; i < times; i++) {
                told(12, "undo()", x.undo(), y.undo());
            }
            lookAll();
        }
    }

    private void hear(int call) {
        int a = pick(9);
        int b = pick(9);
        boolean upper = random.nextBoolean();
        if (call == 13) {
            told(13, "heard(" + a + ", " + b + ")", x.heard(a, b), y.heard(a, b));
        } else if (call == 14) {
            told(14, "sure(" + a + ")", x.sure(a), y.sure(a));
        } else if (call == 15 || call == 16) {
            int heard = y.heard(random.nextInt(10), random.nextInt(10));
            int set = random.nextInt(4) == 0 ? pick(255) : heard;
            if (call == 15) {
                told(15, "where(" + set + ", " + a + ")", x.where(set, a), y.where(set, a));
            } else {
                told(16, "when(" + set + ", " + a + ")", x.when(set, a), y.when(set, a));
            }
        } else if (call == 17) {
            told(17, "spared(" + a + ")", x.spared(a), y.spared(a));
        } else if (call == 18) {
            int s = pick(5);
            told(18, "worth(" + s + ", " + a + ", " + upper + ")", x.worth(s, a, upper), y.worth(s, a, upper));
        } else if (call == 19) {
            int n = pick(10);
            int what = pick(1);
            told(19, "hammers(" + a + ", " + n + ", " + what + ")", x.hammers(a, n, what), y.hammers(a, n, what));
        } else {
            int n = pick(10);
            int what = pick(1);
            told(20, "bestHours(" + n + ", " + what + ")", x.bestHours(n, what), y.bestHours(n, what));
        }
    }

    private void find(int call) {
        int a = pick(9);
        int b = pick(9);
        int s = pick(5);
        int what = pick(1);
        boolean upper = random.nextBoolean();
        if (call == 21) {
            grounded(s, a, b);
        } else if (call == 22) {
            boolean heard = random.nextInt(4) == 0 ? upper : (Math.max(0, y.heard(a, b)) >> Math.floorMod(s, 6)) % 2 == 1;
            told(22, "see(" + s + ", " + a + ", " + b + ", " + heard + ")", x.see(s, a, b, heard), y.see(s, a, b, heard));
        } else if (call == 23) {
            if (random.nextInt(5) == 0) {
                told(23, "unsee()", x.unsee(), y.unsee());
            }
        } else if (call == 24) {
            told(24, "weather(" + what + ")", x.weather(what), y.weather(what));
        } else if (call == 25) {
            told(25, "rivals(" + a + ", " + what + ")", x.rivals(a, what), y.rivals(a, what));
        } else {
            int tenths = pick(10);
            told(26, "chance(" + a + ", " + b + ", " + tenths + ", " + upper + ")",
                x.chance(a, b, tenths, upper), y.chance(a, b, tenths, upper));
        }
    }

    /** Cells drawn at random seldom fit: each t is tried for a g. */
    private void grounded(int s, int g, int hour) {
        int loud = 1 + pick(8);
        for (int t = -1; t <= 10; t++) {
            told(21, "grounded(" + s + ", " + g + ", " + t + ", " + hour + ", " + loud + ")",
                x.grounded(s, g, t, hour, loud), y.grounded(s, g, t, hour, loud));
        }
    }

    private void rest(int call) {
        if (call == 27) {
            long v = random.nextLong();
            told(27, "seed(" + v + ")", x.seed(v), y.seed(v));
        } else if (call == 28) {
            int m = 1 + pick(29);
            told(28, "days(" + m + ")", x.days(m), y.days(m));
        } else if (call == 29) {
            int slot = pick(1);
            told(29, "keep(" + slot + ")", x.keep(slot), y.keep(slot));
        } else if (random.nextInt(3) == 0) {
            int slot = pick(1);
            told(30, "again(" + slot + ")", x.again(slot), y.again(slot));
            lookAll();
        }
    }
}
