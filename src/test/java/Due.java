/** Counts and prints the answers that are not the ones that are due. */
final class Due {
    private int wrong = 0;
    private int asked = 0;

    void is(String call, long got, long want) {
        asked++;
        if (got != want) {
            wrong++;
            if (wrong <= 50) {
                System.out.println(call + " answered " + got + ", due is " + want);
            }
        }
    }

    void holds(String what, boolean so) {
        asked++;
        if (!so) {
            wrong++;
            if (wrong <= 50) {
                System.out.println("it does not hold: " + what);
            }
        }
    }

    int wrong() {
        return wrong;
    }

    void end() {
        System.out.println(asked + " asked, " + wrong + " not as due");
        if (wrong != 0) {
            System.exit(1);
        }
    }

    /** THE TEXT becomes this one. */
    static void text(EarFerry x, String text) {
        x.wipe();
        for (int i = 0; i < text.length(); i++) {
            x.write(text.charAt(i));
        }
    }

    /** A new object on this river. */
    static EarFerry on(String text) {
        EarFerry x = new EarFerry();
        text(x, text);
        if (x.river() < 0) {
            throw new IllegalArgumentException("no river: " + text);
        }
        return x;
    }

    /** All that can be read of an object without changing it, as one text. */
    static String look(EarFerry x) {
        StringBuilder all = new StringBuilder();
        for (int what = 0; what <= 11; what++) {
            all.append(x.about(what)).append(' ');
        }
        for (int sound = 0; sound < 6; sound++) {
            for (int what = 0; what <= 5; what++) {
                all.append(x.sound(sound, what)).append(' ');
            }
        }
        long seed = x.seed(0L);
        x.seed(seed);
        all.append(seed).append(' ').append(x.fault()).append(' ');
        all.append(x.weather(0)).append(' ').append(x.weather(1));
        return all.toString();
    }
}
