import java.math.BigInteger;
import java.util.ArrayList;
import java.util.HashMap;
import java.util.List;
import java.util.Map;
import java.util.TreeSet;
import java.util.regex.Matcher;
import java.util.regex.Pattern;

/**
 * The document once more, slow and by other means than the class: texts by a pattern, sets as sets of numbers,
 * worth by all orders, chances by fractions, acts by copies.
 */
final class Model {
    static final int UNKNOWN = -1, BAD = -2, LATE = -3, FULL = -4, NONE = -9;

    private static final Pattern RIVER = Pattern.compile(
        "R[0-9][0-4][0-2](S[0-9][1-9](0[0-9]|1[1-9]|2[2-9]|3[3-9]|4[4-9]|5[5-9]|6[6-9]|7[789]|8[89]|99)[0-3])*",
        Pattern.DOTALL);

    record Sound(int cell, int loud, int from, int until, int kind) { }

    record Seen(int sound, int cell, int hour, boolean heard) { }

    record State(int ferry, int hour, TreeSet<Integer> hushed, List<Integer> hammers, int rain, int wind) {
        State with(TreeSet<Integer> hushedThen) {
            return new State(ferry, hour, hushedThen, hammers, rain, wind);
        }

        State hammered(List<Integer> hammersThen) {
            return new State(ferry, hour, hushed, hammersThen, rain, wind);
        }

        State weather(int rainThen, int windThen) {
            return new State(ferry, hour, hushed, hammers, rainThen, windThen);
        }
    }

    private String text = "";
    private List<Sound> sounds = new ArrayList<>();
    private State now = new State(0, 0, new TreeSet<>(), List.of(), 0, 1);
    private final List<State> before = new ArrayList<>();
    private final List<Seen> seen = new ArrayList<>();
    private final Map<Integer, State> kept = new HashMap<>();
    private BigInteger seed = BigInteger.ZERO;

    private static boolean in(int v, int least, int most) {
        return least <= v && v <= most;
    }

    private boolean known(int sound) {
        return in(sound, 0, sounds.size() - 1);
    }

    int write(int letter) {
        if (!in(letter, 0, 255)) {
            return BAD;
        }
        if (text.length() == 40) {
            return FULL;
        }
        text += (char) letter;
        return text.length();
    }

    int wipe() {
        int was = text.length();
        text = "";
        return was;
    }

    int fault() {
        for (int p = 1; p <= text.length(); p++) {
            Matcher m = RIVER.matcher(text.substring(0, p));
            if (!m.matches() && !m.hitEnd()) {
                return p - 1;
            }
        }
        return RIVER.matcher(text).matches() ? NONE : text.length();
    }

    int river() {
        if (!RIVER.matcher(text).matches()) {
            return LATE;
        }
        sounds = new ArrayList<>();
        String[] parts = text.split("S");
        for (int i = 1; i < parts.length; i++) {
            int n = Integer.parseInt(parts[i]);
            sounds.add(new Sound(n / 10000, n / 1000 % 10, n / 100 % 10, n / 10 % 10, n % 10));
        }
        int head = Integer.parseInt(parts[0].substring(1));
        now = new State(head / 100, 0, new TreeSet<>(), List.of(), head / 10 % 10, head % 10);
        before.clear();
        kept.clear();
        return sounds.size();
    }

    int about(int what) {
        int hushedBits = bits(now.hushed);
        int[] all = {sounds.size(), now.ferry, now.hour, now.rain, now.wind, hushedBits, now.hammers.size(),
            now.hammers.size() > 0 ? now.hammers.get(0) : NONE, now.hammers.size() > 1 ? now.hammers.get(1) : NONE,
            before.size(), seen.size(), text.length()};
        return in(what, 0, 11) ? all[what] : BAD;
    }

    private static int bits(Iterable<Integer> numbers) {
        int all = 0;
        for (int n : numbers) {
            all += Integer.parseInt("1" + "0".repeat(n), 2);
        }
        return all;
    }

    int sound(int sound, int what) {
        if (!known(sound)) {
            return UNKNOWN;
        }
        Sound s = sounds.get(sound);
        int[] all = {s.cell, s.loud, s.from, s.until, s.kind, 0};
        TreeSet<Integer> cells = new TreeSet<>();
        for (int cell = 0; cell < 10; cell++) {
            if (set(now, cell, now.hour).contains(sound)) {
                cells.add(cell);
            }
        }
        all[5] = bits(cells);
        return in(what, 0, 5) ? all[what] : BAD;
    }

    /** What is heard at a cell at an hour in a state. A hammer nowhere (10) is not heard. */
    private TreeSet<Integer> set(State state, int cell, int hour) {
        TreeSet<Integer> all = new TreeSet<>();
        for (int i = 0; i < sounds.size(); i++) {
            Sound s = sounds.get(i);
            if (!state.hushed.contains(i) && s.from <= hour && hour <= s.until && loudEnough(s, state, cell)) {
                all.add(i);
            }
        }
        for (int i = 0; i < state.hammers.size(); i++) {
            int at = state.hammers.get(i);
            if (at != 10 && loudEnough(new Sound(at, 3, 0, 9, 0), state, cell)) {
                all.add(6 + i);
            }
        }
        return all;
    }

    private static boolean loudEnough(Sound s, State state, int cell) {
        int[] rainTimes = {1, 0, 2, 1};
        int seems = s.cell + (s.kind == 3 ? 0 : state.wind - 1);
        int far = Math.max(cell, seems) - Math.min(cell, seems);
        return s.loud - far - rainTimes[s.kind] * state.rain > 0;
    }

    private TreeSet<Integer> sureCells(State state, int hour) {
        Map<TreeSet<Integer>, List<Integer>> bySet = new HashMap<>();
        for (int cell = 0; cell < 10; cell++) {
            bySet.computeIfAbsent(set(state, cell, hour), k -> new ArrayList<>()).add(cell);
        }
        TreeSet<Integer> sure = new TreeSet<>();
        for (List<Integer> cells : bySet.values()) {
            if (cells.size() == 1) {
                sure.addAll(cells);
            }
        }
        return sure;
    }

    int row(int way) {
        if (way != 1 && way != 2) {
            return BAD;
        }
        int to = now.ferry + (way == 1 ? 1 : -1);
        if (!in(to, 0, 9)) {
            return LATE;
        }
        act(new State(to, now.hour, now.hushed, now.hammers, now.rain, now.wind));
        return bits(set(now, to, now.hour));
    }

    private void act(State then) {
        before.add(now);
        if (before.size() > 14) {
            before.remove(0);
        }
        now = then;
    }

    int hush(int sound) {
        if (!known(sound)) {
            return UNKNOWN;
        }
        TreeSet<Integer> then = new TreeSet<>(now.hushed);
        if (!then.remove(sound)) {
            then.add(sound);
        }
        act(now.with(then));
        return then.contains(sound) ? 1 : 0;
    }

    int hammer(int cell) {
        if (!in(cell, 0, 9)) {
            return BAD;
        }
        List<Integer> then = new ArrayList<>(now.hammers);
        if (!then.remove((Integer) cell)) {
            if (then.size() == 2) {
                return FULL;
            }
            then.add(cell);
        }
        act(now.hammered(then));
        return then.size();
    }

    int change(int rain, int wind) {
        if (!in(rain, 0, 4) || !in(wind, 0, 2)) {
            return BAD;
        }
        if (now.rain == rain && now.wind == wind) {
            return LATE;
        }
        int was = 10 * now.rain + now.wind;
        act(now.weather(rain, wind));
        return was;
    }

    int hour() {
        int then = now.hour == 9 ? 0 : now.hour + 1;
        act(new State(now.ferry, then, now.hushed, now.hammers, now.rain, now.wind));
        return then;
    }

    int undo() {
        if (before.isEmpty()) {
            return LATE;
        }
        now = before.remove(before.size() - 1);
        return before.size();
    }

    int heard(int cell, int hour) {
        return in(cell, 0, 9) && in(hour, 0, 9) ? bits(set(now, cell, hour)) : BAD;
    }

    int sure(int hour) {
        return in(hour, 0, 9) ? bits(sureCells(now, hour)) : BAD;
    }

    int where(int set, int hour) {
        if (!in(set, 0, 255) || !in(hour, 0, 9)) {
            return BAD;
        }
        TreeSet<Integer> cells = new TreeSet<>();
        for (int cell = 0; cell < 10; cell++) {
            if (heard(cell, hour) == set) {
                cells.add(cell);
            }
        }
        return bits(cells);
    }

    int when(int set, int cell) {
        if (!in(set, 0, 255) || !in(cell, 0, 9)) {
            return BAD;
        }
        TreeSet<Integer> hours = new TreeSet<>();
        for (int hour = 0; hour < 10; hour++) {
            if (heard(cell, hour) == set) {
                hours.add(hour);
            }
        }
        return bits(hours);
    }

    private List<Integer> live() {
        List<Integer> all = new ArrayList<>();
        for (int i = 0; i < sounds.size(); i++) {
            if (!now.hushed.contains(i)) {
                all.add(i);
            }
        }
        return all;
    }

    private State without(TreeSet<Integer> silent) {
        TreeSet<Integer> all = new TreeSet<>(now.hushed);
        all.addAll(silent);
        return now.with(all);
    }

    int spared(int hour) {
        if (!in(hour, 0, 9)) {
            return BAD;
        }
        int best = NONE;
        int fewest = 99;
        for (int s : live()) {
            int left = sureCells(without(new TreeSet<>(List.of(s))), hour).size();
            if (left < fewest) {
                fewest = left;
                best = s;
            }
        }
        return best;
    }

    int worth(int sound, int hour, boolean upper) {
        if (!known(sound)) {
            return UNKNOWN;
        }
        if (!in(hour, 0, 9)) {
            return BAD;
        }
        if (now.hushed.contains(sound)) {
            return upper ? 0 : 1;
        }
        long[] sumAndOrders = new long[2];
        Map<TreeSet<Integer>, Integer> counted = new HashMap<>();
        orders(new ArrayList<>(), live(), sound, hour, sumAndOrders, counted);
        return part(BigInteger.valueOf(sumAndOrders[0]), BigInteger.valueOf(sumAndOrders[1]), upper);
    }

    private void orders(List<Integer> come, List<Integer> left, int sound, int hour, long[] sum,
            Map<TreeSet<Integer>, Integer> counted) {
        if (left.isEmpty()) {
            TreeSet<Integer> silent = new TreeSet<>(come.subList(come.indexOf(sound), come.size()));
            int were = counted.computeIfAbsent(silent, k -> sureCells(without(k), hour).size());
            TreeSet<Integer> then = new TreeSet<>(silent);
            then.remove(sound);
            int are = counted.computeIfAbsent(then, k -> sureCells(without(k), hour).size());
            sum[0] += are - were;
            sum[1]++;
            return;
        }
        for (Integer next : left) {
            List<Integer> comeThen = new ArrayList<>(come);
            comeThen.add(next);
            List<Integer> leftThen = new ArrayList<>(left);
            leftThen.remove(next);
            orders(comeThen, leftThen, sound, hour, sum, counted);
        }
    }

    private static int part(BigInteger top, BigInteger bottom, boolean upper) {
        BigInteger g = top.gcd(bottom);
        return (upper ? top : bottom).divide(g).intValueExact();
    }

    int hammers(int hour, int n, int what) {
        if (!in(hour, 0, 9) || !in(n, 1, 10) || !in(what, 0, 1)) {
            return BAD;
        }
        for (int many = 0; many <= 2; many++) {
            for (int code = 0; code < (many == 0 ? 1 : many == 1 ? 10 : 100); code++) {
                List<Integer> at = many == 0 ? List.of() : many == 1 ? List.of(code) : List.of(code / 10, code % 10);
                if (many == 2 && at.get(0) >= at.get(1)) {
                    continue;
                }
                if (sureCells(now.hammered(at), hour).size() >= n) {
                    return what == 0 ? many : code;
                }
            }
        }
        return NONE;
    }

    int bestHours(int n, int what) {
        if (!in(n, 1, 10) || !in(what, 0, 1)) {
            return BAD;
        }
        int[] sums = new int[10];
        for (int hour = 0; hour < 10; hour++) {
            int sure = sureCells(now, hour).size();
            for (int back = 0; back < n; back++) {
                sums[Math.floorMod(hour - back, 10)] += sure;
            }
        }
        int best = 9;
        for (int from = 9; from >= 0; from--) {
            best = sums[from] >= sums[best] ? from : best;
        }
        return what == 0 ? best : sums[best];
    }

    int grounded(int sound, int g, int t, int hour, int loud) {
        if (!known(sound)) {
            return UNKNOWN;
        }
        if (!in(g, 0, 9) || !in(t, 0, 9) || !in(hour, 0, 9) || !in(loud, 1, 9)) {
            return BAD;
        }
        TreeSet<Integer> there = set(now, g, hour);
        if (!there.add(sound) || !there.equals(set(now, t, hour))) {
            return 0;
        }
        TreeSet<Integer> cells = new TreeSet<>();
        for (int cell = 0; cell < 10; cell++) {
            if (loudEnough(new Sound(cell, loud, 0, 9, 0), now, g)) {
                cells.add(cell);
            }
        }
        return bits(cells);
    }

    int see(int sound, int cell, int hour, boolean heard) {
        if (!known(sound)) {
            return UNKNOWN;
        }
        if (!in(cell, 0, 9) || !in(hour, 0, 9)) {
            return BAD;
        }
        if (seen.size() == 6) {
            return FULL;
        }
        seen.add(new Seen(sound, cell, hour, heard));
        return seen.size();
    }

    int unsee() {
        int was = seen.size();
        seen.clear();
        return was;
    }

    int weather(int what) {
        if (!in(what, 0, 1)) {
            return BAD;
        }
        List<Integer> pairs = new ArrayList<>();
        for (int rain = 0; rain <= 4; rain++) {
            for (int wind = 0; wind <= 2; wind++) {
                State then = now.weather(rain, wind);
                if (seen.stream().filter(s -> known(s.sound))
                        .allMatch(s -> set(then, s.cell, s.hour).contains(s.sound) == s.heard)) {
                    pairs.add(10 * rain + wind);
                }
            }
        }
        return what == 0 ? pairs.size() : pairs.isEmpty() ? NONE : pairs.get(0);
    }

    int rivals(int hour, int what) {
        if (!in(hour, 0, 9) || !in(what, 0, 1)) {
            return BAD;
        }
        Map<List<Integer>, Integer> game = new HashMap<>();
        for (int a = 0; a <= 10; a++) {
            for (int b = 0; b <= 10; b++) {
                if (a != b || a == 10) {
                    game.put(List.of(a, b), sureCells(now.hammered(List.of(a, b)), hour).size());
                }
            }
        }
        TreeSet<Integer> rest = new TreeSet<>();
        for (List<Integer> pair : game.keySet()) {
            int most = Integer.MIN_VALUE;
            int least = Integer.MAX_VALUE;
            for (List<Integer> other : game.keySet()) {
                if (other.get(1).equals(pair.get(1))) {
                    most = Math.max(most, game.get(other));
                }
                if (other.get(0).equals(pair.get(0))) {
                    least = Math.min(least, game.get(other));
                }
            }
            if (game.get(pair) == most && game.get(pair) == least) {
                rest.add(11 * pair.get(0) + pair.get(1));
            }
        }
        return what == 0 ? rest.size() : rest.isEmpty() ? NONE : rest.first();
    }

    int chance(int cell, int hour, int x, boolean upper) {
        if (!in(cell, 0, 9) || !in(hour, 0, 9) || !in(x, 0, 10)) {
            return BAD;
        }
        List<Integer> live = live();
        BigInteger top = chanceFrom(0, live, new TreeSet<>(), cell, hour, x);
        return part(top, BigInteger.TEN.pow(live.size()), upper);
    }

    private BigInteger chanceFrom(int i, List<Integer> live, TreeSet<Integer> silent, int cell, int hour, int x) {
        if (i == live.size()) {
            return sureCells(without(silent), hour).contains(cell) ? BigInteger.ONE : BigInteger.ZERO;
        }
        TreeSet<Integer> more = new TreeSet<>(silent);
        more.add(live.get(i));
        return chanceFrom(i + 1, live, silent, cell, hour, x).multiply(BigInteger.valueOf(10 - x))
            .add(chanceFrom(i + 1, live, more, cell, hour, x).multiply(BigInteger.valueOf(x)));
    }

    long seed(long v) {
        long was = seed.longValue();
        seed = BigInteger.valueOf(v);
        return was;
    }

    int days(int m) {
        if (!in(m, 1, 30)) {
            return BAD;
        }
        BigInteger round = BigInteger.ONE.shiftLeft(64);
        int many = 0;
        for (int i = 0; i < m; i++) {
            seed = seed.multiply(new BigInteger("6364136223846793005")).add(new BigInteger("1442695040888963407"))
                .mod(round);
            int failing = seed.shiftRight(64 - 31).mod(BigInteger.valueOf(64)).intValueExact();
            TreeSet<Integer> silent = new TreeSet<>();
            for (int s = 0; s < 6; s++) {
                if (BigInteger.valueOf(failing).testBit(s)) {
                    silent.add(s);
                }
            }
            many += sureCells(without(silent), (now.hour + i) % 10).contains(now.ferry) ? 1 : 0;
        }
        return many;
    }

    int keep(int slot) {
        if (!in(slot, 0, 1)) {
            return UNKNOWN;
        }
        kept.put(slot, now);
        return now.hour;
    }

    int again(int slot) {
        if (!in(slot, 0, 1)) {
            return UNKNOWN;
        }
        if (!kept.containsKey(slot)) {
            return LATE;
        }
        now = kept.get(slot);
        before.clear();
        return now.hour;
    }
}
