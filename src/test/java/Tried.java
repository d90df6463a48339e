import java.math.BigInteger;
import java.util.ArrayList;
import java.util.List;

/** What the document asks for, found by trying: sounds are hushed and hammers put on new objects, then sure is asked. */
final class Tried {
    private static final int NOWHERE = 10;
    private static final int NONE = -9;

    private Tried() {
    }

    /** Sure cells (bits) at an hour on a river, with hammers at these cells (10: nowhere) and these sounds hushed. */
    static int sure(String river, int hour, int hushed, int... hammers) {
        EarFerry x = Due.on(river);
        for (int sound = 0; sound < x.about(0); sound++) {
            if ((hushed >> sound) % 2 == 1) {
                x.hush(sound);
            }
        }
        for (int cell : hammers) {
            if (cell != NOWHERE) {
                x.hammer(cell);
            }
        }
        return x.sure(hour);
    }

    static int sureCount(String river, int hour, int hushed, int... hammers) {
        return Integer.bitCount(sure(river, hour, hushed, hammers));
    }

    static int soundsOf(String river) {
        return (river.length() - 4) / 6;
    }

    static int spared(String river, int hour, int hushed, int... hammers) {
        int best = NONE;
        int fewest = 11;
        for (int sound = 0; sound < soundsOf(river); sound++) {
            if ((hushed >> sound) % 2 == 0) {
                int left = sureCount(river, hour, hushed | 1 << sound, hammers);
                best = left < fewest ? sound : best;
                fewest = Math.min(left, fewest);
            }
        }
        return best;
    }

    /** Above and below, by all orders in which the sounds that are not hushed can come. */
    static int[] worth(String river, int sound, int hour, int hushed, int... hammers) {
        int all = (1 << soundsOf(river)) - 1;
        int[] counts = new int[all + 1];
        for (int there = 0; there <= all; there++) {
            counts[there] = (there & hushed) != 0 ? 0 : sureCount(river, hour, all & ~there, hammers);
        }
        List<Integer> gains = new ArrayList<>();
        orders(0, all & ~hushed, sound, counts, gains);
        long sum = 0;
        for (int gain : gains) {
            sum += gain;
        }
        return leastTerms(BigInteger.valueOf(sum), BigInteger.valueOf(gains.size()));
    }

    private static void orders(int came, int coming, int sound, int[] counts, List<Integer> gains) {
        for (int next = 0; next < 6; next++) {
            int own = 1 << next;
            if ((coming & own) != 0) {
                if (next == sound) {
                    // The gain counts once for each order of those that come later.
                    int gain = counts[came | own] - counts[came];
                    for (int i = 0; i < factorial(Integer.bitCount(coming) - 1); i++) {
                        gains.add(gain);
                    }
                } else {
                    orders(came | own, coming & ~own, sound, counts, gains);
                }
            }
        }
    }

    private static int factorial(int n) {
        return n <= 1 ? 1 : n * factorial(n - 1);
    }

    static int[] leastTerms(BigInteger above, BigInteger below) {
        BigInteger common = above.gcd(below);
        return new int[] {above.divide(common).intValueExact(), below.divide(common).intValueExact()};
    }

    /** How many hammers and at which cells, as the document tells them. */
    static int[] fewestHammers(String river, int hour, int n) {
        if (sureCount(river, hour, 0) >= n) {
            return new int[] {0, 0};
        }
        for (int cell = 0; cell <= 9; cell++) {
            if (sureCount(river, hour, 0, cell) >= n) {
                return new int[] {1, cell};
            }
        }
        for (int pair = 0; pair <= 99; pair++) {
            if (pair / 10 < pair % 10 && sureCount(river, hour, 0, pair / 10, pair % 10) >= n) {
                return new int[] {2, pair};
            }
        }
        return new int[] {NONE, NONE};
    }

    /**
     * In how many weathers all that was seen is so, and the first of them. Of what was seen: the sound, the cell, the
     * hour, and 1 if it was heard, 0 if not.
     */
    static int[] weather(String parts, int hushed, int[][] seen) {
        int many = 0;
        int first = NONE;
        for (int pair = 42; pair >= 0; pair--) {
            if (pair % 10 <= 2) {
                boolean so = true;
                for (int[] one : seen) {
                    EarFerry x = Due.on("R0" + pair / 10 + pair % 10 + parts);
                    int heard = x.heard(one[1], one[2]) & ~hushed;
                    so &= (heard >> one[0] & 1) == one[3];
                }
                many += so ? 1 : 0;
                first = so ? pair : first;
            }
        }
        return new int[] {many, first};
    }

    /** How many pairs are at rest, and the first of them. */
    static int[] rivals(String river, int hour, int hushed) {
        int[][] counts = new int[11][11];
        for (int his = 0; his <= 10; his++) {
            for (int rival = 0; rival <= 10; rival++) {
                counts[his][rival] = his == rival && his != NOWHERE ? NONE : sureCount(river, hour, hushed, his, rival);
            }
        }
        int many = 0;
        int first = NONE;
        for (int pair = 120; pair >= 0; pair--) {
            if (atRest(counts, pair / 11, pair % 11)) {
                many++;
                first = pair;
            }
        }
        return new int[] {many, first};
    }

    private static boolean atRest(int[][] counts, int his, int rival) {
        int now = counts[his][rival];
        boolean rests = now != NONE;
        for (int choice = 0; choice <= 10; choice++) {
            rests &= counts[choice][rival] <= now;
            rests &= counts[his][choice] == NONE || counts[his][choice] >= now;
        }
        return rests;
    }

    /** Above and below, by all ways in which the sounds that are not hushed can fail. */
    static int[] chance(String river, int cell, int hour, int x, int hushed, int... hammers) {
        int sounds = soundsOf(river);
        BigInteger above = BigInteger.ZERO;
        for (int failing = 0; failing < 1 << sounds; failing++) {
            if ((failing & hushed) == 0 && (sure(river, hour, failing | hushed, hammers) >> cell) % 2 == 1) {
                int fail = Integer.bitCount(failing);
                int stay = sounds - Integer.bitCount(hushed) - fail;
                above = above.add(BigInteger.valueOf(x).pow(fail).multiply(BigInteger.valueOf(10 - x).pow(stay)));
            }
        }
        return leastTerms(above, BigInteger.TEN.pow(sounds - Integer.bitCount(hushed)));
    }

    /** THE SEED, one hour later. */
    static long nextSeed(long seed) {
        return BigInteger.valueOf(seed).multiply(new BigInteger("6364136223846793005"))
            .add(new BigInteger("1442695040888963407")).longValue();
    }

    /** Bits of sounds that fail by a seed: its upper 31 bits, what is left by 64. */
    static int failing(long seed) {
        BigInteger unsigned = new BigInteger(Long.toUnsignedString(seed));
        return unsigned.divide(BigInteger.TWO.pow(33)).mod(BigInteger.valueOf(64)).intValueExact();
    }

    static int days(String river, int ferry, int fromHour, long seed, int m, int hushed, int... hammers) {
        int many = 0;
        long x = seed;
        for (int day = 0; day < m; day++) {
            x = nextSeed(x);
            many += sure(river, (fromHour + day) % 10, hushed | failing(x), hammers) >> ferry & 1;
        }
        return many;
    }
}
