/** A blind ferryman on a river of ten cells, who knows where he is by what he hears. */
public final class EarFerry {
    public static final int UNKNOWN = -1, BAD = -2, LATE = -3, FULL = -4, NONE = -9;

    private static final int CELLS = 10;
    private static final int HOURS = 10;
    private static final int ALL_CELLS = 1023;
    private static final int MOST_RAIN = 4;
    private static final int MOST_WIND = 2;
    private static final int CALM = 1;

    private static final int MOST_SOUNDS = 6;
    private static final int SUBSETS = 64;
    private static final int LEAST_LOUD = 1;
    private static final int MOST_LOUD = 9;
    private static final int PLAIN = 0;
    private static final int DEEP = 1;
    private static final int SHRILL = 2;
    private static final int WATER = 3;

    private static final int FIRST_HAMMER_BIT = 64;
    private static final int SECOND_HAMMER_BIT = 128;
    private static final int HAMMER_BITS = 192;
    private static final int MOST_SET = 255;
    private static final int HAMMER_LOUD = 3;
    private static final int NOWHERE = 10;
    private static final int CHOICES = 11;

    private static final int MOST_BYTES = 40;
    private static final int HEAD_BYTES = 4;
    private static final int PART_BYTES = 6;
    private static final int MOST_BYTE = 255;

    private static final int MOST_ACTS = 14;
    private static final int MOST_SEEN = 6;
    private static final int SLOTS = 2;
    private static final int NOT_KEPT = -1;
    private static final int MOST_DAYS = 30;
    private static final int TENTHS = 10;
    private static final int DIVISOR_STEPS = 100;
    private static final long SEED_FACTOR = 6364136223846793005L;
    private static final long SEED_STEP = 1442695040888963407L;
    private static final int SEED_SHIFT = 33;

    private final Text text = new Text();
    private final Sounds sounds = new Sounds();
    private final Scene now = new Scene();
    private final Sightings seen = new Sightings();

    /** Each act as the packed scene from before it: to undo one is to take that scene again. */
    private final int[] acts = new int[MOST_ACTS];
    private int actCount = 0;
    private final int[] slots = new int[SLOTS];
    private long seedNow = 0L;

    // Rows that calls fill and read again within one call; made once, to spare room.
    private final int[] soundSets = new int[CELLS];
    private final int[] sets = new int[CELLS];
    private final int[] sureByHour = new int[HOURS];
    private final int[] sureByChoice = new int[CHOICES * CHOICES];

    public EarFerry() {
        slots[0] = NOT_KEPT;
        slots[1] = NOT_KEPT;
    }

    // ---- the river

    public int write(int letter) {
        if (letter < 0 || letter > MOST_BYTE) {
            return BAD;
        }
        if (text.length >= MOST_BYTES) {
            return FULL;
        }
        text.add(letter);
        return text.length;
    }

    public int wipe() {
        int was = text.length;
        text.length = 0;
        return was;
    }

    public int fault() {
        return text.firstFault();
    }

    public int river() {
        if (text.firstFault() != NONE) {
            return LATE;
        }
        sounds.take(text);
        now.begin(text.digit(1), text.digit(2), text.digit(3));
        actCount = 0;
        slots[0] = NOT_KEPT;
        slots[1] = NOT_KEPT;
        return sounds.count;
    }

    public int about(int what) {
        switch (what) {
            case 0: return sounds.count;
            case 1: return now.ferry;
            case 2: return now.time;
            case 3: return now.rain;
            case 4: return now.wind;
            case 5: return now.hushed;
            case 6: return now.hammerCount();
            case 7: return toldCell(now.firstHammer);
            case 8: return toldCell(now.secondHammer);
            case 9: return actCount;
            case 10: return seen.count;
            case 11: return text.length;
            default: return BAD;
        }
    }

    public int sound(int sound, int what) {
        if (!sounds.has(sound)) {
            return UNKNOWN;
        }
        switch (what) {
            case 0: return sounds.cell[sound];
            case 1: return sounds.loud[sound];
            case 2: return sounds.from[sound];
            case 3: return sounds.until[sound];
            case 4: return sounds.kind[sound];
            case 5: return cellsThatHear(sound);
            default: return BAD;
        }
    }

    // ---- acts

    public int row(int way) {
        if (way != 1 && way != 2) {
            return BAD;
        }
        int next = way == 1 ? now.ferry + 1 : now.ferry - 1;
        if (!isCell(next)) {
            return LATE;
        }
        rememberAct();
        now.ferry = next;
        return setNow(next, now.time);
    }

    public int hush(int sound) {
        if (!sounds.has(sound)) {
            return UNKNOWN;
        }
        rememberAct();
        now.hushed = now.hushed ^ (1 << sound);
        return (now.hushed >> sound) & 1;
    }

    public int hammer(int cell) {
        if (!isCell(cell)) {
            return BAD;
        }
        boolean isThere = now.firstHammer == cell || now.secondHammer == cell;
        if (!isThere && now.hammerCount() == 2) {
            return FULL;
        }
        rememberAct();
        if (isThere) {
            now.takeHammer(cell);
        } else {
            now.putHammer(cell);
        }
        return now.hammerCount();
    }

    public int change(int rain, int wind) {
        if (rain < 0 || rain > MOST_RAIN || wind < 0 || wind > MOST_WIND) {
            return BAD;
        }
        if (rain == now.rain && wind == now.wind) {
            return LATE;
        }
        rememberAct();
        int was = 10 * now.rain + now.wind;
        now.rain = rain;
        now.wind = wind;
        return was;
    }

    public int hour() {
        rememberAct();
        now.time = hourBehind(now.time);
        return now.time;
    }

    public int undo() {
        if (actCount < 1) {
            return LATE;
        }
        actCount--;
        now.unpack(acts[actCount]);
        return actCount;
    }

    // ---- heard

    public int heard(int cell, int hour) {
        if (!isCell(cell) || !isHour(hour)) {
            return BAD;
        }
        return setNow(cell, hour);
    }

    public int sure(int hour) {
        if (!isHour(hour)) {
            return BAD;
        }
        fillSetsNow(hour);
        return sureCells(MOST_SET);
    }

    public int where(int set, int hour) {
        if (!isSet(set) || !isHour(hour)) {
            return BAD;
        }
        int cells = 0;
        for (int cell = 0; cell < CELLS; cell++) {
            if (setNow(cell, hour) == set) {
                cells |= 1 << cell;
            }
        }
        return cells;
    }

    public int when(int set, int cell) {
        if (!isSet(set) || !isCell(cell)) {
            return BAD;
        }
        int hours = 0;
        for (int hour = 0; hour < HOURS; hour++) {
            if (setNow(cell, hour) == set) {
                hours |= 1 << hour;
            }
        }
        return hours;
    }

    public int spared(int hour) {
        if (!isHour(hour)) {
            return BAD;
        }
        fillSetsNow(hour);
        int live = liveSounds();
        int dearest = NONE;
        int fewest = CELLS + 1;
        for (int sound = 0; sound < sounds.count; sound++) {
            int own = 1 << sound;
            if ((live & own) != 0) {
                int left = sureCount(live & ~own);
                if (left < fewest) {
                    fewest = left;
                    dearest = sound;
                }
            }
        }
        return dearest;
    }

    public int worth(int sound, int hour, boolean upper) {
        if (!sounds.has(sound)) {
            return UNKNOWN;
        }
        if (!isHour(hour)) {
            return BAD;
        }
        int own = 1 << sound;
        if ((now.hushed & own) != 0) {
            return toldPart(0, 1, upper);
        }
        fillSetsNow(hour);
        int others = liveSounds() & ~own;
        int company = Integer.bitCount(others);
        int total = 0;
        for (int earlier = 0; earlier < SUBSETS; earlier++) {
            if ((earlier & ~others) == 0) {
                int came = Integer.bitCount(earlier);
                int orders = factorial(came) * factorial(company - came);
                total += orders * (sureCount(earlier | own) - sureCount(earlier));
            }
        }
        return toldPart(total, factorial(company + 1), upper);
    }

    public int hammers(int hour, int n, int what) {
        if (!isHour(hour) || n < 1 || n > CELLS || !isFirstOrSecond(what)) {
            return BAD;
        }
        fillSoundSets(hour);
        int found = fewestHammers(n);
        if (found == NONE) {
            return NONE;
        }
        return what == 0 ? found / 100 : found % 100;
    }

    public int bestHours(int n, int what) {
        if (n < 1 || n > HOURS || !isFirstOrSecond(what)) {
            return BAD;
        }
        for (int hour = 0; hour < HOURS; hour++) {
            fillSetsNow(hour);
            sureByHour[hour] = sureCount(MOST_SET);
        }
        int best = 0;
        int most = -1;
        for (int start = 0; start < HOURS; start++) {
            int together = 0;
            for (int step = 0; step < n; step++) {
                together += sureByHour[(start + step) % HOURS];
            }
            if (together > most) {
                most = together;
                best = start;
            }
        }
        return what == 0 ? best : most;
    }

    // ---- found

    public int grounded(int sound, int g, int t, int hour, int loud) {
        if (!sounds.has(sound)) {
            return UNKNOWN;
        }
        if (!isCell(g) || !isCell(t) || !isHour(hour) || loud < LEAST_LOUD || loud > MOST_LOUD) {
            return BAD;
        }
        int own = 1 << sound;
        int setThere = setNow(g, hour);
        if ((setThere & own) != 0 || (setThere | own) != setNow(t, hour)) {
            return 0;
        }
        int cells = 0;
        for (int cell = 0; cell < CELLS; cell++) {
            if (reaches(PLAIN, loud, cell, g, now.rain, now.wind)) {
                cells |= 1 << cell;
            }
        }
        return cells;
    }

    public int see(int sound, int cell, int hour, boolean heard) {
        if (!sounds.has(sound)) {
            return UNKNOWN;
        }
        if (!isCell(cell) || !isHour(hour)) {
            return BAD;
        }
        if (seen.count >= MOST_SEEN) {
            return FULL;
        }
        seen.add(sound, cell, hour, heard);
        return seen.count;
    }

    public int unsee() {
        int was = seen.count;
        seen.count = 0;
        return was;
    }

    public int weather(int what) {
        if (!isFirstOrSecond(what)) {
            return BAD;
        }
        int pairs = 0;
        int first = NONE;
        for (int rain = 0; rain <= MOST_RAIN; rain++) {
            for (int wind = 0; wind <= MOST_WIND; wind++) {
                if (agreesWithSeen(rain, wind)) {
                    first = pairs == 0 ? 10 * rain + wind : first;
                    pairs++;
                }
            }
        }
        return what == 0 ? pairs : first;
    }

    public int rivals(int hour, int what) {
        if (!isHour(hour) || !isFirstOrSecond(what)) {
            return BAD;
        }
        fillSoundSets(hour);
        fillSureByChoice();
        int pairs = 0;
        int first = NONE;
        for (int his = 0; his < CHOICES; his++) {
            for (int other = 0; other < CHOICES; other++) {
                if (isAtRest(his, other)) {
                    first = pairs == 0 ? CHOICES * his + other : first;
                    pairs++;
                }
            }
        }
        return what == 0 ? pairs : first;
    }

    public int chance(int cell, int hour, int x, boolean upper) {
        if (!isCell(cell) || !isHour(hour) || x < 0 || x > TENTHS) {
            return BAD;
        }
        fillSetsNow(hour);
        int live = liveSounds();
        int liveCount = Integer.bitCount(live);
        int ways = 0;
        for (int left = 0; left < SUBSETS; left++) {
            if ((left & ~live) == 0 && isSure(cell, left)) {
                int leftCount = Integer.bitCount(left);
                ways += power(TENTHS - x, leftCount) * power(x, liveCount - leftCount);
            }
        }
        return toldPart(ways, power(TENTHS, liveCount), upper);
    }

    public long seed(long v) {
        long was = seedNow;
        seedNow = v;
        return was;
    }

    public int days(int m) {
        if (m < 1 || m > MOST_DAYS) {
            return BAD;
        }
        int time = now.time;
        int sureDays = 0;
        for (int day = 0; day < m; day++) {
            seedNow = seedNow * SEED_FACTOR + SEED_STEP;
            int failing = (int) ((seedNow >>> SEED_SHIFT) % SUBSETS);
            fillSetsNow(time);
            if (isSure(now.ferry, liveSounds() & ~failing)) {
                sureDays++;
            }
            time = hourBehind(time);
        }
        return sureDays;
    }

    // ---- slots

    public int keep(int slot) {
        if (slot < 0 || slot >= SLOTS) {
            return UNKNOWN;
        }
        slots[slot] = now.packed();
        return now.time;
    }

    public int again(int slot) {
        if (slot < 0 || slot >= SLOTS) {
            return UNKNOWN;
        }
        if (slots[slot] == NOT_KEPT) {
            return LATE;
        }
        now.unpack(slots[slot]);
        actCount = 0;
        return now.time;
    }

    // ---- what the calls are made of

    private static boolean isCell(int cell) {
        return cell >= 0 && cell < CELLS;
    }

    private static boolean isHour(int hour) {
        return hour >= 0 && hour < HOURS;
    }

    private static boolean isSet(int set) {
        return set >= 0 && set <= MOST_SET;
    }

    private static boolean isFirstOrSecond(int what) {
        return what == 0 || what == 1;
    }

    private static int hourBehind(int hour) {
        return (hour + 1) % HOURS;
    }

    private static int toldCell(int cell) {
        return cell == NOWHERE ? NONE : cell;
    }

    private void rememberAct() {
        if (actCount >= MOST_ACTS) {
            for (int i = 1; i < MOST_ACTS; i++) {
                acts[i - 1] = acts[i];
            }
            actCount = MOST_ACTS - 1;
        }
        acts[actCount] = now.packed();
        actCount++;
    }

    /** Whether a sound, at an hour at which it is there, is loud enough for a cell. */
    private static boolean reaches(int kind, int loud, int source, int cell, int rain, int wind) {
        int seems = kind == WATER ? source : source + wind - CALM;
        int dampened = rain;
        if (kind == DEEP) {
            dampened = 0;
        } else if (kind == SHRILL) {
            dampened = 2 * rain;
        }
        return loud > dampened + Math.abs(cell - seems);
    }

    private int liveSounds() {
        return ((1 << sounds.count) - 1) & ~now.hushed;
    }

    private boolean isHeard(int sound, int cell, int hour, int rain, int wind) {
        return (now.hushed & (1 << sound)) == 0
            && sounds.carries(sound, cell, hour, rain, wind);
    }

    private int cellsThatHear(int sound) {
        int cells = 0;
        for (int cell = 0; cell < CELLS; cell++) {
            if (isHeard(sound, cell, now.time, now.rain, now.wind)) {
                cells |= 1 << cell;
            }
        }
        return cells;
    }

    private int soundSet(int cell, int hour) {
        int live = liveSounds();
        int set = 0;
        for (int sound = 0; sound < sounds.count; sound++) {
            int own = 1 << sound;
            if ((live & own) != 0 && sounds.carries(sound, cell, hour, now.rain, now.wind)) {
                set |= own;
            }
        }
        return set;
    }

    private int hammerSet(int cell, int first, int second) {
        int set = 0;
        if (first != NOWHERE && reaches(PLAIN, HAMMER_LOUD, first, cell, now.rain, now.wind)) {
            set |= FIRST_HAMMER_BIT;
        }
        if (second != NOWHERE && reaches(PLAIN, HAMMER_LOUD, second, cell, now.rain, now.wind)) {
            set |= SECOND_HAMMER_BIT;
        }
        return set;
    }

    private int setNow(int cell, int hour) {
        return soundSet(cell, hour) | hammerSet(cell, now.firstHammer, now.secondHammer);
    }

    private void fillSoundSets(int hour) {
        for (int cell = 0; cell < CELLS; cell++) {
            soundSets[cell] = soundSet(cell, hour);
        }
    }

    /** Lays hammers over the sounds that fillSoundSets found. */
    private void fillSets(int first, int second) {
        for (int cell = 0; cell < CELLS; cell++) {
            sets[cell] = soundSets[cell] | hammerSet(cell, first, second);
        }
    }

    private void fillSetsNow(int hour) {
        fillSoundSets(hour);
        fillSets(now.firstHammer, now.secondHammer);
    }

    /** The sure cells by the filled sets, if of them only the bits of mask were heard. */
    private int sureCells(int mask) {
        int alike = 0;
        for (int cell = 0; cell < CELLS; cell++) {
            for (int other = cell + 1; other < CELLS; other++) {
                if (((sets[cell] ^ sets[other]) & mask) == 0) {
                    alike |= (1 << cell) | (1 << other);
                }
            }
        }
        return ALL_CELLS & ~alike;
    }

    private int sureCount(int soundBits) {
        return Integer.bitCount(sureCells(soundBits | HAMMER_BITS));
    }

    private boolean isSure(int cell, int soundBits) {
        return ((sureCells(soundBits | HAMMER_BITS) >> cell) & 1) == 1;
    }

    private int sureCountWith(int first, int second) {
        fillSets(first, second);
        return sureCount(MOST_SET);
    }

    /** 100 times how many hammers, and their cells as they are told; or NONE. */
    private int fewestHammers(int n) {
        if (sureCountWith(NOWHERE, NOWHERE) >= n) {
            return 0;
        }
        for (int cell = 0; cell < CELLS; cell++) {
            if (sureCountWith(cell, NOWHERE) >= n) {
                return 100 + cell;
            }
        }
        for (int lesser = 0; lesser < CELLS; lesser++) {
            for (int greater = lesser + 1; greater < CELLS; greater++) {
                if (sureCountWith(lesser, greater) >= n) {
                    return 200 + 10 * lesser + greater;
                }
            }
        }
        return NONE;
    }

    private boolean agreesWithSeen(int rain, int wind) {
        for (int i = 0; i < seen.count; i++) {
            // A river made anew may have fewer sounds than were seen.
            if (sounds.has(seen.sound[i])
                && isHeard(seen.sound[i], seen.cell[i], seen.time[i], rain, wind) != seen.heardThere[i]) {
                return false;
            }
        }
        return true;
    }

    private static boolean canBoth(int his, int other) {
        return his != other || his == NOWHERE;
    }

    private void fillSureByChoice() {
        for (int his = 0; his < CHOICES; his++) {
            for (int other = 0; other < CHOICES; other++) {
                if (canBoth(his, other)) {
                    sureByChoice[CHOICES * his + other] = sureCountWith(his, other);
                }
            }
        }
    }

    private boolean isAtRest(int his, int other) {
        if (!canBoth(his, other)) {
            return false;
        }
        int sureNow = sureByChoice[CHOICES * his + other];
        for (int choice = 0; choice < CHOICES; choice++) {
            if (canBoth(choice, other) && sureByChoice[CHOICES * choice + other] > sureNow) {
                return false;
            }
            if (canBoth(his, choice) && sureByChoice[CHOICES * his + choice] < sureNow) {
                return false;
            }
        }
        return true;
    }

    private static int power(int base, int exponent) {
        int product = 1;
        for (int i = 0; i < exponent; i++) {
            product *= base;
        }
        return product;
    }

    private static int factorial(int n) {
        int product = 1;
        for (int i = 2; i <= n; i++) {
            product *= i;
        }
        return product;
    }

    /** What is above or below in top / bottom in least terms; bottom is 1 or more. */
    private static int toldPart(int top, int bottom, boolean upper) {
        int divisor = Math.max(1, greatestDivisor(Math.abs(top), bottom));
        return upper ? top / divisor : bottom / divisor;
    }

    private static int greatestDivisor(int a, int b) {
        int greater = a;
        int lesser = b;
        for (int step = 0; step < DIVISOR_STEPS && lesser != 0; step++) {
            int rest = greater % lesser;
            greater = lesser;
            lesser = rest;
        }
        return greater;
    }

    /** THE TEXT, byte by byte. */
    private static final class Text {
        final int[] bytes = new int[MOST_BYTES];
        int length = 0;

        void add(int letter) {
            if (length < MOST_BYTES) {
                bytes[length] = letter;
                length++;
            }
        }

        int digit(int place) {
            return place >= 0 && place < length ? bytes[place] - '0' : 0;
        }

        int firstFault() {
            for (int place = 0; place < length; place++) {
                if (!fits(place)) {
                    return place;
                }
            }
            boolean isWhole = length >= HEAD_BYTES && (length - HEAD_BYTES) % PART_BYTES == 0;
            return isWhole ? NONE : length;
        }

        private boolean fits(int place) {
            return place < HEAD_BYTES ? fitsHead(place) : fitsPart(place);
        }

        private boolean fitsHead(int place) {
            switch (place) {
                case 0: return bytes[0] == 'R';
                case 1: return isDigit(place, 0, CELLS - 1);
                case 2: return isDigit(place, 0, MOST_RAIN);
                default: return isDigit(place, 0, MOST_WIND);
            }
        }

        private boolean fitsPart(int place) {
            switch ((place - HEAD_BYTES) % PART_BYTES) {
                case 0: return bytes[place] == 'S';
                case 1: return isDigit(place, 0, CELLS - 1);
                case 2: return isDigit(place, LEAST_LOUD, MOST_LOUD);
                case 3: return isDigit(place, 0, HOURS - 1);
                case 4: return isDigit(place, digit(place - 1), HOURS - 1);
                default: return isDigit(place, PLAIN, WATER);
            }
        }

        private boolean isDigit(int place, int least, int most) {
            int value = digit(place);
            return value >= least && value <= most;
        }
    }

    /** The river's sounds, a row for each thing that is told of them. */
    private static final class Sounds {
        final int[] cell = new int[MOST_SOUNDS];
        final int[] loud = new int[MOST_SOUNDS];
        final int[] from = new int[MOST_SOUNDS];
        final int[] until = new int[MOST_SOUNDS];
        final int[] kind = new int[MOST_SOUNDS];
        int count = 0;

        boolean has(int sound) {
            return sound >= 0 && sound < count;
        }

        /** Takes the parts of a text without a fault. */
        void take(Text text) {
            count = Math.min(MOST_SOUNDS, Math.max(0, (text.length - HEAD_BYTES) / PART_BYTES));
            for (int sound = 0; sound < count; sound++) {
                int place = HEAD_BYTES + PART_BYTES * sound;
                cell[sound] = text.digit(place + 1);
                loud[sound] = text.digit(place + 2);
                from[sound] = text.digit(place + 3);
                until[sound] = text.digit(place + 4);
                kind[sound] = text.digit(place + 5);
            }
        }

        /** Whether a sound comes to a cell at an hour, were it not hushed. */
        boolean carries(int sound, int at, int hour, int rain, int wind) {
            return has(sound) && hour >= from[sound] && hour <= until[sound]
                && reaches(kind[sound], loud[sound], cell[sound], at, rain, wind);
        }
    }

    /** All that acts change; it goes into one int, so that acts and slots need no objects. */
    private static final class Scene {
        int ferry = 0;
        int time = 0;
        int hushed = 0;
        int firstHammer = NOWHERE;
        int secondHammer = NOWHERE;
        int rain = 0;
        int wind = CALM;

        void begin(int start, int rainTold, int windTold) {
            ferry = start;
            time = 0;
            hushed = 0;
            firstHammer = NOWHERE;
            secondHammer = NOWHERE;
            rain = rainTold;
            wind = windTold;
        }

        int hammerCount() {
            return (firstHammer == NOWHERE ? 0 : 1) + (secondHammer == NOWHERE ? 0 : 1);
        }

        void putHammer(int cell) {
            if (firstHammer == NOWHERE) {
                firstHammer = cell;
            } else {
                secondHammer = cell;
            }
        }

        void takeHammer(int cell) {
            if (firstHammer == cell) {
                firstHammer = secondHammer;
            }
            secondHammer = NOWHERE;
        }

        int packed() {
            return ferry | (time << 4) | (hushed << 8) | (firstHammer << 14)
                | (secondHammer << 18) | (rain << 22) | (wind << 25);
        }

        void unpack(int scene) {
            ferry = scene & 15;
            time = (scene >> 4) & 15;
            hushed = (scene >> 8) & 63;
            firstHammer = (scene >> 14) & 15;
            secondHammer = (scene >> 18) & 15;
            rain = (scene >> 22) & 7;
            wind = (scene >> 25) & 3;
        }
    }

    /** What was seen, a row for each thing that is told of it. */
    private static final class Sightings {
        final int[] sound = new int[MOST_SEEN];
        final int[] cell = new int[MOST_SEEN];
        final int[] time = new int[MOST_SEEN];
        final boolean[] heardThere = new boolean[MOST_SEEN];
        int count = 0;

        void add(int soundSeen, int cellSeen, int hourSeen, boolean heardSeen) {
            if (count < MOST_SEEN) {
                sound[count] = soundSeen;
                cell[count] = cellSeen;
                time[count] = hourSeen;
                heardThere[count] = heardSeen;
                count++;
            }
        }
    }
}
