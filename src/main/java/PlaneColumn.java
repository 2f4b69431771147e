import java.util.Arrays;
import java.util.NoSuchElementException;

/**
 * A column of up to 64 numbers 0 .. 255, told as eight planes of bits.
 * The words in capitals are those of the document.
 *
 * The NUMBERS lie in one row; beside it the BITS of all LEVELS are kept, made anew by each
 * change. All rows that a call needs are made with the object, so that no call makes any.
 */
public final class PlaneColumn {
    public static final int NONE = -1;

    private static final int MISSING = -2;
    private static final int FULL = -3;
    private static final int ALREADY_SO = -4;
    private static final int RIGHT = -1;

    private static final int MOST_NUMBERS = 64;
    private static final int GREATEST = 255;
    private static final int LEVELS = 8;
    private static final int MOST_LISTED = 16;
    private static final int MOST_PLACES = 32;
    private static final long MOST_WAYS = 1000000000L;

    private final int[] numbers;
    private int size;
    private final Levels levels;
    private final Signs text;
    private final Told told;
    private final Tally first;
    private final Tally second;
    private final PartReader partReader;
    private final PlaneReader planeReader;
    private final OrderSearch orderSearch;
    private final Climbs climbs;

    public PlaneColumn() {
        numbers = new int[MOST_NUMBERS];
        size = 0;
        levels = new Levels();
        text = new Signs();
        told = new Told();
        first = new Tally();
        second = new Tally();
        partReader = new PartReader();
        planeReader = new PlaneReader();
        orderSearch = new OrderSearch();
        climbs = new Climbs();
    }

    // ---- the column

    public int column() {
        int wrong = partReader.read(text);
        text.keep(0);
        if (wrong != RIGHT) {
            return -1 - wrong;
        }
        size = partReader.size;
        System.arraycopy(partReader.numbers, 0, numbers, 0, size);
        settle();
        return size;
    }

    public int planes() {
        int wrong = planeReader.read(text);
        text.keep(0);
        if (wrong != RIGHT) {
            return -1 - wrong;
        }
        size = planeReader.width;
        for (int place = 0; place < size; place++) {
            numbers[place] = numberIn(planeReader.bits, size, place);
        }
        settle();
        return size;
    }

    public int adds(int v) {
        if (!isNumber(v)) {
            return NONE;
        }
        if (size >= MOST_NUMBERS) {
            return FULL;
        }
        numbers[size] = v;
        size++;
        settle();
        return size;
    }

    public int puts(int place, int v) {
        if (!isNumber(v)) {
            return NONE;
        }
        if (!isPlace(place)) {
            return MISSING;
        }
        int was = numbers[place];
        if (was == v) {
            return ALREADY_SO;
        }
        numbers[place] = v;
        tell(settle());
        return was;
    }

    public int cuts(int place) {
        if (!isPlace(place)) {
            return MISSING;
        }
        int was = numbers[place];
        for (int i = place + 1; i < size; i++) {
            numbers[i - 1] = numbers[i];
        }
        size--;
        settle();
        return was;
    }

    public int swaps(int one, int other) {
        if (!isPlace(one) || !isPlace(other) || one == other) {
            return MISSING;
        }
        exchange(one, other);
        return settle();
    }

    public int reverses(int l, int r) {
        if (!isSpan(l, r)) {
            return NONE;
        }
        int other = r - 1;
        for (int one = l; one < other; one++) {
            exchange(one, other);
            other--;
        }
        return settle();
    }

    public int sign(int v) {
        return text.add(v) ? text.size : NONE;
    }

    public boolean end(int n) {
        return text.keep(n);
    }

    // ---- planes

    public int level(int j) {
        if (j < 0 || j >= LEVELS) {
            return NONE;
        }
        long bits = levels.bits[j];
        tell(bits, runsOf(bits, size));
        return size - Long.bitCount(bits);
    }

    public int spot(int place, int j) {
        if (j < 0 || j > LEVELS) {
            return NONE;
        }
        if (!isPlace(place)) {
            return MISSING;
        }
        tell(numbers[place] >> LEVELS - j);
        return spotIn(levels.bits, size, place, j);
    }

    public int from(int j, int spot) {
        if (j < 0 || j > LEVELS) {
            return NONE;
        }
        if (!isPlace(spot)) {
            return MISSING;
        }
        int place = levels.placeAt(j, spot);
        tell(numbers[place]);
        return place;
    }

    public int runs() {
        int all = 0;
        told.begin();
        for (int j = 0; j < LEVELS; j++) {
            int runs = runsOf(levels.bits[j], size);
            told.add(runs);
            all += runs;
        }
        return all;
    }

    public int thrift() {
        int fewest = orderSearch.search(numbers, size);
        told.begin();
        for (int j = 0; j < LEVELS; j++) {
            told.add(orderSearch.order[j]);
        }
        return fewest;
    }

    // ---- one span

    public int kth(int l, int r, int k) {
        if (!isSpan(l, r) || k < 0) {
            return NONE;
        }
        if (k >= r - l) {
            return MISSING;
        }
        first.take(numbers, l, r);
        int v = first.sortedAt(k);
        tell(first.timesOf(v), nextPlaceOf(v, l));
        return v;
    }

    public int rank(int v, int i) {
        if (!isNumber(v) || i < 0 || i > size) {
            return NONE;
        }
        return timesIn(v, 0, i);
    }

    public int select(int v, int k) {
        if (!isNumber(v) || k < 0) {
            return NONE;
        }
        int ahead = 0;
        for (int place = 0; place < size; place++) {
            if (numbers[place] == v) {
                if (ahead == k) {
                    return place;
                }
                ahead++;
            }
        }
        return MISSING;
    }

    public int band(int l, int r, int a, int b) {
        if (!isSpan(l, r) || !isNumber(a) || !isNumber(b) || a > b) {
            return NONE;
        }
        first.take(numbers, l, r);
        int found = 0;
        for (int v = a; v <= b; v++) {
            found += first.timesOf(v);
        }
        tell(first.visitsOfBand(a, b));
        return found;
    }

    public int below(int l, int r, int v) {
        if (!isSpan(l, r) || v < 1 || v > GREATEST + 1) {
            return NONE;
        }
        first.take(numbers, l, r);
        for (int lesser = v - 1; lesser >= 0; lesser--) {
            if (first.timesOf(lesser) > 0) {
                tell(first.timesOf(lesser));
                return lesser;
            }
        }
        return MISSING;
    }

    public int above(int l, int r, int v) {
        if (!isSpan(l, r) || v < -1 || v > GREATEST - 1) {
            return NONE;
        }
        first.take(numbers, l, r);
        for (int greater = v + 1; greater <= GREATEST; greater++) {
            if (first.timesOf(greater) > 0) {
                tell(first.timesOf(greater));
                return greater;
            }
        }
        return MISSING;
    }

    public int sums(int l, int r, int k) {
        if (!isSpan(l, r) || k < 0) {
            return NONE;
        }
        if (k > r - l) {
            return MISSING;
        }
        first.take(numbers, l, r);
        int least = 0;
        int greatest = 0;
        for (int i = 0; i < k; i++) {
            least += first.sortedAt(i);
            greatest += first.sortedAt(r - l - 1 - i);
        }
        tell(greatest);
        return least;
    }

    public int often(int l, int r, int m) {
        if (!isSpan(l, r) || !isTimes(m)) {
            return NONE;
        }
        first.take(numbers, l, r);
        tell(first.nodesWith(m));
        int found = 0;
        for (int v = 0; v <= GREATEST; v++) {
            if (first.timesOf(v) >= m) {
                if (found < MOST_LISTED) {
                    told.add(v);
                    told.add(first.timesOf(v));
                }
                found++;
            }
        }
        return found;
    }

    public int mode(int l, int r) {
        if (!isSpan(l, r)) {
            return NONE;
        }
        if (l == r) {
            return MISSING;
        }
        first.take(numbers, l, r);
        int most = 0;
        for (int v = 1; v <= GREATEST; v++) {
            if (first.timesOf(v) > first.timesOf(most)) {
                most = v;
            }
        }
        tell(first.timesOf(most));
        return most;
    }

    public int across(int l, int r, int x, int k) {
        if (!isSpan(l, r) || !isNumber(x) || k < 0) {
            return NONE;
        }
        first.take(numbers, l, r);
        int upTo = 0;
        for (int result = 0; result <= GREATEST; result++) {
            upTo += first.timesOf(result ^ x);
            if (k < upTo) {
                tell(result ^ x);
                return result;
            }
        }
        return MISSING;
    }

    public int turned(int l, int r) {
        if (!isSpan(l, r)) {
            return NONE;
        }
        int greaterFirst = 0;
        int like = 0;
        for (int one = l; one < r; one++) {
            for (int other = one + 1; other < r; other++) {
                if (numbers[one] > numbers[other]) {
                    greaterFirst++;
                } else if (numbers[one] == numbers[other]) {
                    like++;
                }
            }
        }
        tell(like);
        return greaterFirst;
    }

    public int spread(int l, int r, int p) {
        if (!isSpan(l, r) || p < 1 || p > 4) {
            return NONE;
        }
        first.take(numbers, l, r);
        int filled = 0;
        told.begin();
        for (int head = 0; head < 1 << p; head++) {
            int has = first.inNode(p, head);
            told.add(has);
            if (has > 0) {
                filled++;
            }
        }
        return filled;
    }

    public int nearest(int l, int r) {
        if (!isSpan(l, r)) {
            return NONE;
        }
        if (r - l < 2) {
            return MISSING;
        }
        first.take(numbers, l, r);
        // Of three numbers in the order of size the outer two never come to less than two
        // neighbours do, so neighbours are enough, and the first best pair has the lesser ones.
        int best = 0;
        for (int i = 1; i < r - l - 1; i++) {
            if (apart(i) < apart(best)) {
                best = i;
            }
        }
        tell(first.sortedAt(best), first.sortedAt(best + 1));
        return apart(best);
    }

    public int dense(int l, int r, int w) {
        if (!isSpan(l, r) || !isNumber(w)) {
            return NONE;
        }
        first.take(numbers, l, r);
        int most = 0;
        int least = NONE;
        for (int i = 0; i < r - l; i++) {
            int found = reachFrom(i, w);
            if (found > most) {
                most = found;
                least = first.sortedAt(i);
            }
        }
        tell(least);
        return most;
    }

    public int farthest(int l, int r, int x) {
        if (!isSpan(l, r) || !isNumber(x)) {
            return NONE;
        }
        first.take(numbers, l, r);
        for (int result = GREATEST; result >= 0; result--) {
            int times = first.timesOf(result ^ x);
            if (times > 0) {
                tell(result ^ x, times);
                return result;
            }
        }
        return MISSING;
    }

    public int fit(int l, int r, int sum) {
        if (!isSpan(l, r) || sum < 0) {
            return NONE;
        }
        first.take(numbers, l, r);
        int taken = 0;
        int together = 0;
        while (taken < r - l && together + first.sortedAt(taken) <= sum) {
            together += first.sortedAt(taken);
            taken++;
        }
        tell(together);
        return taken;
    }

    public int gap(int l, int r) {
        if (!isSpan(l, r)) {
            return NONE;
        }
        if (r - l < 2) {
            return MISSING;
        }
        first.take(numbers, l, r);
        int best = 0;
        for (int i = 1; i < r - l - 1; i++) {
            if (step(i) > step(best)) {
                best = i;
            }
        }
        tell(first.sortedAt(best), first.sortedAt(best + 1));
        return step(best);
    }

    public int narrow(int v, int m) {
        if (!isNumber(v) || !isTimes(m)) {
            return NONE;
        }
        int shortest = MOST_NUMBERS + 1;
        int begin = 0;
        int spans = 0;
        for (int l = 0; l < size; l++) {
            int length = lengthWith(v, m, l);
            if (length != NONE && length < shortest) {
                shortest = length;
                begin = l;
                spans = 1;
            } else if (length == shortest) {
                spans++;
            }
        }
        if (spans == 0) {
            return MISSING;
        }
        tell(begin, begin + shortest);
        told.add(spans);
        return shortest;
    }

    public int lone(int l, int r) {
        if (!isSpan(l, r)) {
            return NONE;
        }
        first.take(numbers, l, r);
        int found = 0;
        int least = NONE;
        int greatest = NONE;
        for (int v = 0; v <= GREATEST; v++) {
            if (first.timesOf(v) == 1) {
                found++;
                least = least == NONE ? v : least;
                greatest = v;
            }
        }
        tell(least, greatest);
        return found;
    }

    public int rises(int l, int r) {
        if (!isSpan(l, r)) {
            return NONE;
        }
        climbs.take(numbers, l, r);
        int longest = climbs.longest;
        tell(climbs.leastEnd(numbers, l, r), Math.min(climbs.waysToLongest(l, r), MOST_WAYS));
        return longest;
    }

    public int marks(int l, int r, int v) {
        if (!isSpan(l, r) || !isNumber(v)) {
            return NONE;
        }
        int found = 0;
        told.begin();
        for (int place = l; place < r; place++) {
            if (numbers[place] == v) {
                if (found < MOST_PLACES) {
                    told.add(place);
                }
                found++;
            }
        }
        return found;
    }

    // ---- two spans

    public int common(int l, int r, int s, int t) {
        if (!takeBoth(l, r, s, t)) {
            return NONE;
        }
        tell(first.nodesSharedWith(second));
        int found = 0;
        for (int v = 0; v <= GREATEST; v++) {
            if (first.timesOf(v) > 0 && second.timesOf(v) > 0) {
                if (found < MOST_LISTED) {
                    told.add(v);
                    told.add(first.timesOf(v));
                    told.add(second.timesOf(v));
                }
                found++;
            }
        }
        return found;
    }

    public int lacking(int l, int r, int s, int t) {
        if (!takeBoth(l, r, s, t)) {
            return NONE;
        }
        told.begin();
        int found = 0;
        for (int v = 0; v <= GREATEST; v++) {
            if (first.timesOf(v) > 0 && second.timesOf(v) == 0) {
                if (found < MOST_LISTED) {
                    told.add(v);
                    told.add(first.timesOf(v));
                }
                found++;
            }
        }
        return found;
    }

    public int both(int l, int r, int s, int t, int k) {
        if (k < 0 || !takeBoth(l, r, s, t)) {
            return NONE;
        }
        int upTo = 0;
        for (int v = 0; v <= GREATEST; v++) {
            upTo += first.timesOf(v) + second.timesOf(v);
            if (k < upTo) {
                tell(first.timesOf(v), second.timesOf(v));
                return v;
            }
        }
        return MISSING;
    }

    public int same(int l, int r, int s, int t) {
        if (!takeBoth(l, r, s, t)) {
            return NONE;
        }
        int least = NONE;
        int firstAlone = 0;
        int secondAlone = 0;
        for (int v = 0; v <= GREATEST; v++) {
            int more = first.timesOf(v) - second.timesOf(v);
            if (more != 0 && least == NONE) {
                least = v;
            }
            firstAlone += Math.max(more, 0);
            secondAlone += Math.max(-more, 0);
        }
        tell(least, firstAlone);
        told.add(secondAlone);
        return least == NONE ? 1 : 0;
    }

    public int count(int what) {
        switch (what) {
            case 0:
                return size;
            case 1:
                return text.size;
            case 2:
                return told.size;
            case 3:
                return unlikeNumbers();
            case 4:
                return sumOfAll();
            case 5:
                return onesOfAll();
            default:
                return NONE;
        }
    }

    public long row(int i) throws NoSuchElementException {
        if (i < 0 || i >= told.size) {
            throw new NoSuchElementException("the ROW has no such number");
        }
        return told.values[i];
    }

    // ---- what the calls share

    private static boolean isNumber(int v) {
        return v >= 0 && v <= GREATEST;
    }

    private static boolean isTimes(int m) {
        return m >= 1 && m <= MOST_NUMBERS;
    }

    private boolean isPlace(int place) {
        return place >= 0 && place < size;
    }

    private boolean isSpan(int l, int r) {
        return l >= 0 && l <= r && r <= size;
    }

    /** Makes the BITS fit the NUMBERS after a change; answers how many are another one now. */
    private int settle() {
        orderSearch.forget();
        return levels.remake(numbers, size);
    }

    private void tell(long only) {
        told.begin();
        told.add(only);
    }

    private void tell(long one, long other) {
        told.begin();
        told.add(one);
        told.add(other);
    }

    private void exchange(int one, int other) {
        int was = numbers[one];
        numbers[one] = numbers[other];
        numbers[other] = was;
    }

    private boolean takeBoth(int l, int r, int s, int t) {
        if (!isSpan(l, r) || !isSpan(s, t)) {
            return false;
        }
        first.take(numbers, l, r);
        second.take(numbers, s, t);
        return true;
    }

    private int timesIn(int v, int l, int r) {
        int times = 0;
        for (int place = l; place < r; place++) {
            if (numbers[place] == v) {
                times++;
            }
        }
        return times;
    }

    private int nextPlaceOf(int v, int l) {
        for (int place = l; place < size; place++) {
            if (numbers[place] == v) {
                return place;
            }
        }
        return NONE;
    }

    /** How long the shortest SPAN from l on is that has m NUMBERS v, the first of them at l; NONE without. */
    private int lengthWith(int v, int m, int l) {
        if (numbers[l] != v) {
            return NONE;
        }
        int times = 0;
        for (int place = l; place < size; place++) {
            if (numbers[place] == v) {
                times++;
            }
            if (times == m) {
                return place + 1 - l;
            }
        }
        return NONE;
    }

    private int apart(int i) {
        return first.sortedAt(i) ^ first.sortedAt(i + 1);
    }

    private int step(int i) {
        return first.sortedAt(i + 1) - first.sortedAt(i);
    }

    /** How many from the i-th on, in the order of size, are w at most above it. */
    private int reachFrom(int i, int w) {
        int found = 0;
        for (int k = i; k < first.size; k++) {
            if (first.sortedAt(k) - first.sortedAt(i) <= w) {
                found++;
            }
        }
        return found;
    }

    private int unlikeNumbers() {
        int unlike = 0;
        for (int place = 0; place < size; place++) {
            if (timesIn(numbers[place], 0, place) == 0) {
                unlike++;
            }
        }
        return unlike;
    }

    private int sumOfAll() {
        int sum = 0;
        for (int place = 0; place < size; place++) {
            sum += numbers[place];
        }
        return sum;
    }

    /** Each LEVEL has a bit of each NUMBER once, so the ones of all LEVELS are those of the NUMBERS. */
    private int onesOfAll() {
        int ones = 0;
        for (int place = 0; place < size; place++) {
            ones += Integer.bitCount(numbers[place]);
        }
        return ones;
    }

    // ---- BITS of one LEVEL, of another

    private static long lowest(int n) {
        return n >= 64 ? -1L : (1L << n) - 1L;
    }

    private static int bitAt(long bits, int spot) {
        return (int) (bits >>> spot & 1L);
    }

    private static int runsOf(long bits, int size) {
        if (size <= 0) {
            return 0;
        }
        return 1 + Long.bitCount((bits ^ bits >>> 1) & lowest(size - 1));
    }

    /** The SPOT in the next LEVEL of what stands at a SPOT of a LEVEL with these BITS. */
    private static int nextSpot(long bits, int size, int spot) {
        int onesAhead = Long.bitCount(bits & lowest(spot));
        if (bitAt(bits, spot) == 0) {
            return spot - onesAhead;
        }
        return size - Long.bitCount(bits) + onesAhead;
    }

    private static int spotIn(long[] bits, int size, int place, int level) {
        int spot = place;
        for (int j = 0; j < level && j < bits.length; j++) {
            spot = nextSpot(bits[j], size, spot);
        }
        return spot;
    }

    private static int numberIn(long[] bits, int size, int place) {
        int number = 0;
        int spot = place;
        for (int j = 0; j < bits.length; j++) {
            number = number << 1 | bitAt(bits[j], spot);
            spot = nextSpot(bits[j], size, spot);
        }
        return number;
    }

    /** The ROW: it has room for the longest one, that of common with its 49 numbers. */
    private static final class Told {
        private final long[] values = new long[64];
        private int size = 0;

        void begin() {
            size = 0;
        }

        void add(long value) {
            if (size < values.length) {
                values[size] = value;
                size++;
            }
        }
    }

    /** THE TEXT. */
    private static final class Signs {
        private static final int MOST = 100;
        private static final int AT_ONCE = 4;
        private static final int END = -1;

        private final int[] codes = new int[MOST];
        private int size = 0;

        boolean add(int v) {
            if (size + AT_ONCE > MOST) {
                return false;
            }
            for (int i = AT_ONCE - 1; i >= 0; i--) {
                codes[size] = v >>> 8 * i & 255;
                size++;
            }
            return true;
        }

        boolean keep(int n) {
            if (n < 0 || n > size) {
                return false;
            }
            size = n;
            return true;
        }

        int at(int i) {
            return i >= 0 && i < size ? codes[i] : END;
        }
    }

    /** Reads THE TEXT as a COLUMN. */
    private static final class PartReader {
        private final int[] numbers = new int[MOST_NUMBERS];
        private int size = 0;
        private int at = 0;

        /** Answers RIGHT, or where the sign is that can't stand there. */
        int read(Signs text) {
            size = 0;
            at = 0;
            if (text.size == 0) {
                return RIGHT;
            }
            for (int parts = 0; parts < Signs.MOST; parts++) {
                int wrong = readPart(text);
                if (wrong != RIGHT) {
                    return wrong;
                }
                if (at >= text.size) {
                    return RIGHT;
                }
                if (text.at(at) != ',') {
                    return at;
                }
                at++;
            }
            return at;
        }

        private int readPart(Signs text) {
            int begin = at;
            int number = readDigits(text, 3, 0, GREATEST);
            if (number < 0) {
                return at;
            }
            int times = 1;
            if (text.at(at) == 'x') {
                at++;
                times = readDigits(text, 2, 1, MOST_NUMBERS);
                if (times < 0) {
                    return at;
                }
            }
            if (size + times > MOST_NUMBERS) {
                return begin;
            }
            for (int i = 0; i < times; i++) {
                numbers[size] = number;
                size++;
            }
            return RIGHT;
        }

        /** The number told from here on; if it is wrong, NONE, and here is the sign that can't stand. */
        private int readDigits(Signs text, int mostDigits, int least, int most) {
            int value = 0;
            int digits = 0;
            while (digits < mostDigits && isDigit(text.at(at))) {
                value = value * 10 + text.at(at) - '0';
                at++;
                digits++;
            }
            if (digits == 0) {
                return NONE;
            }
            if (value < least || value > most) {
                at--;
                return NONE;
            }
            return isDigit(text.at(at)) ? NONE : value;
        }

        private static boolean isDigit(int code) {
            return code >= '0' && code <= '9';
        }
    }

    /** Reads THE TEXT as the BITS of eight LEVELS. */
    private static final class PlaneReader {
        private static final int MOST_WIDE = 11;

        private final long[] bits = new long[LEVELS];
        private int width = 0;

        /** Answers RIGHT, or where the sign is that can't stand there. */
        int read(Signs text) {
            int at = 0;
            for (int j = 0; j < LEVELS; j++) {
                int length = readBits(text, at, j, j == 0 ? MOST_WIDE : width);
                at += length;
                if (j == 0) {
                    width = length;
                }
                int behind = j == LEVELS - 1 ? Signs.END : '/';
                if (length < width || text.at(at) != behind) {
                    return at;
                }
                at++;
            }
            return RIGHT;
        }

        /** Takes the signs 0 and 1 from a place on as BITS of a LEVEL, so many at most; answers how many there were. */
        private int readBits(Signs text, int begin, int level, int most) {
            bits[level] = 0L;
            int length = 0;
            while (length < most && isBit(text.at(begin + length))) {
                bits[level] |= (long) (text.at(begin + length) - '0') << length;
                length++;
            }
            return length;
        }

        private static boolean isBit(int code) {
            return code == '0' || code == '1';
        }
    }

    /** The BITS of all LEVELS. */
    private static final class Levels {
        private final long[] bits = new long[LEVELS];
        private final int[] order = new int[MOST_NUMBERS];
        private final int[] ones = new int[MOST_NUMBERS];
        private int size = 0;

        int remake(int[] numbers, int howMany) {
            size = howMany;
            int changed = 0;
            startOrder();
            for (int j = 0; j < LEVELS; j++) {
                long now = bitsInOrder(numbers, LEVELS - 1 - j);
                changed += Long.bitCount(now ^ bits[j]);
                bits[j] = now;
                part(now);
            }
            return changed;
        }

        int placeAt(int level, int spot) {
            startOrder();
            for (int j = 0; j < level && j < LEVELS; j++) {
                part(bits[j]);
            }
            return order[spot];
        }

        private void startOrder() {
            for (int i = 0; i < size; i++) {
                order[i] = i;
            }
        }

        private long bitsInOrder(int[] numbers, int bit) {
            long found = 0L;
            for (int spot = 0; spot < size; spot++) {
                found |= (long) (numbers[order[spot]] >> bit & 1) << spot;
            }
            return found;
        }

        private void part(long levelBits) {
            int zeros = 0;
            int others = 0;
            for (int spot = 0; spot < size; spot++) {
                if (bitAt(levelBits, spot) == 0) {
                    order[zeros] = order[spot];
                    zeros++;
                } else {
                    ones[others] = order[spot];
                    others++;
                }
            }
            System.arraycopy(ones, 0, order, zeros, others);
        }
    }

    /** How many NUMBERS of a SPAN each NODE has, and these NUMBERS in the order of size. */
    private static final class Tally {
        // The NODE of LEVEL j with HEAD h lies at 2 to the j, plus h: each has an index of its own.
        private final int[] nodes = new int[2 * (GREATEST + 1)];
        private final int[] sorted = new int[MOST_NUMBERS];
        private int size = 0;

        void take(int[] numbers, int l, int r) {
            Arrays.fill(nodes, 0);
            for (int place = l; place < r; place++) {
                for (int level = 0; level <= LEVELS; level++) {
                    nodes[(1 << level) + (numbers[place] >> LEVELS - level)]++;
                }
            }
            sort();
        }

        private void sort() {
            size = 0;
            for (int v = 0; v <= GREATEST; v++) {
                int times = timesOf(v);
                for (int i = 0; i < times && size < sorted.length; i++) {
                    sorted[size] = v;
                    size++;
                }
            }
        }

        int timesOf(int v) {
            return inNode(LEVELS, v);
        }

        int inNode(int level, int head) {
            if (level < 0 || level > LEVELS || head < 0 || head >= 1 << level) {
                return 0;
            }
            return nodes[(1 << level) + head];
        }

        int sortedAt(int i) {
            return i >= 0 && i < size ? sorted[i] : NONE;
        }

        int nodesWith(int m) {
            int found = 0;
            for (int node = 1; node < nodes.length; node++) {
                if (nodes[node] >= m) {
                    found++;
                }
            }
            return found;
        }

        int nodesSharedWith(Tally other) {
            int found = 0;
            for (int node = 1; node < nodes.length; node++) {
                if (nodes[node] > 0 && other.nodes[node] > 0) {
                    found++;
                }
            }
            return found;
        }

        /** NODES that COVER some of the band and come behind none that COVERS nothing else. */
        int visitsOfBand(int a, int b) {
            int visits = 0;
            for (int level = 0; level <= LEVELS; level++) {
                int shift = LEVELS - level;
                for (int head = a >> shift; head <= b >> shift; head++) {
                    boolean reached = level == 0 || !isWithin(head >> 1, shift + 1, a, b);
                    if (reached && inNode(level, head) > 0) {
                        visits++;
                    }
                }
            }
            return visits;
        }

        private static boolean isWithin(int head, int shift, int a, int b) {
            return head << shift >= a && (head + 1 << shift) - 1 <= b;
        }
    }

    /** The longest rising choices of PLACES, by the PLACE at which they end. */
    private static final class Climbs {
        private final int[] lengths = new int[MOST_NUMBERS];
        private final long[] ways = new long[MOST_NUMBERS];
        private int longest = 0;

        void take(int[] numbers, int l, int r) {
            longest = 0;
            for (int place = l; place < r; place++) {
                lengths[place] = 1;
                ways[place] = 1L;
                for (int ahead = l; ahead < place; ahead++) {
                    if (numbers[ahead] < numbers[place]) {
                        goOn(ahead, place);
                    }
                }
                longest = Math.max(longest, lengths[place]);
            }
        }

        private void goOn(int ahead, int place) {
            int length = lengths[ahead] + 1;
            if (length > lengths[place]) {
                lengths[place] = length;
                ways[place] = ways[ahead];
            } else if (length == lengths[place]) {
                ways[place] += ways[ahead];
            }
        }

        int leastEnd(int[] numbers, int l, int r) {
            int least = NONE;
            for (int place = l; place < r; place++) {
                if (lengths[place] == longest && (least == NONE || numbers[place] < least)) {
                    least = numbers[place];
                }
            }
            return least;
        }

        /** No more than 3 to the 22, as each way takes one PLACE of each length, so a long holds it. */
        long waysToLongest(int l, int r) {
            long all = 0L;
            for (int place = l; place < r; place++) {
                if (lengths[place] == longest) {
                    all += ways[place];
                }
            }
            return all;
        }
    }

    /**
     * Looks for the order of bits by which the LEVELS have the fewest RUNS.
     *
     * A bit that all NUMBERS have alike has one run wherever it is asked for, and parts nothing:
     * only the others, the varied ones, are tried in all orders, the greater bit first, so that
     * the first order with the fewest RUNS is the one that is asked for.
     */
    private static final class OrderSearch {
        private static final int LANE = 8;
        private static final long LANE_MASK = 255L;
        private static final int LEAST_RUNS = 2;
        private static final int MORE_THAN_ALL = LEVELS * MOST_NUMBERS + 1;

        // A number lies here with each of its bits in a lane of eight bits of its own, so that
        // the changes of all bits between neighbours are counted by one addition.
        private final long[][] lines = new long[LEVELS][MOST_NUMBERS];
        private final long[] ones = new long[MOST_NUMBERS];
        private final int[] tried = new int[LEVELS];
        private final int[] best = new int[LEVELS];
        private final int[] order = new int[LEVELS];
        private int size = 0;
        private int variedCount = 0;
        private int fewest = 0;
        private boolean known = false;

        void forget() {
            known = false;
        }

        int search(int[] numbers, int howMany) {
            if (!known) {
                size = howMany;
                int varied = takeLine(numbers);
                variedCount = Integer.bitCount(varied);
                fewest = variedCount == 0 ? 0 : MORE_THAN_ALL;
                tryBits(0, varied, 0);
                fillOrder(varied);
                fewest += size == 0 ? 0 : LEVELS - variedCount;
                known = true;
            }
            return fewest;
        }

        /** Takes the NUMBERS as the line of LEVEL 0; answers which bits are not alike in all of them. */
        private int takeLine(int[] numbers) {
            int varied = 0;
            for (int i = 0; i < size; i++) {
                lines[0][i] = lanesOf(numbers[i]);
                varied |= numbers[i] ^ numbers[0];
            }
            return varied;
        }

        private static long lanesOf(int number) {
            long lanes = 0L;
            for (int bit = 0; bit < LEVELS; bit++) {
                lanes |= (long) (number >> bit & 1) << LANE * bit;
            }
            return lanes;
        }

        private void tryBits(int level, int open, int runsAhead) {
            if (level >= variedCount || level >= LEVELS) {
                return;
            }
            long changes = changesOf(lines[level]);
            int runsBehind = LEAST_RUNS * (variedCount - 1 - level);
            for (int bit = LEVELS - 1; bit >= 0; bit--) {
                int runs = runsAhead + 1 + (int) (changes >>> LANE * bit & LANE_MASK);
                if ((open >> bit & 1) != 0 && runs + runsBehind < fewest) {
                    tried[level] = bit;
                    takeBit(level, open & ~(1 << bit), runs);
                }
            }
        }

        private void takeBit(int level, int open, int runs) {
            if (open == 0) {
                fewest = runs;
                System.arraycopy(tried, 0, best, 0, variedCount);
            } else if (level + 1 < LEVELS) {
                part(lines[level], lines[level + 1], tried[level]);
                tryBits(level + 1, open, runs);
            }
        }

        private long changesOf(long[] line) {
            long changes = 0L;
            for (int i = 1; i < size; i++) {
                changes += line[i] ^ line[i - 1];
            }
            return changes;
        }

        private void part(long[] line, long[] next, int bit) {
            long mask = 1L << LANE * bit;
            int zeros = 0;
            int others = 0;
            for (int i = 0; i < size; i++) {
                if ((line[i] & mask) == 0L) {
                    next[zeros] = line[i];
                    zeros++;
                } else {
                    ones[others] = line[i];
                    others++;
                }
            }
            System.arraycopy(ones, 0, next, zeros, others);
        }

        /** Puts the other bits between, each as far ahead as a greater one of the best order lets it. */
        private void fillOrder(int varied) {
            int at = 0;
            int taken = 0;
            for (int bit = LEVELS - 1; bit >= 0; bit--) {
                if ((varied >> bit & 1) == 0) {
                    while (taken < variedCount && best[taken] > bit) {
                        order[at] = best[taken];
                        at++;
                        taken++;
                    }
                    order[at] = bit;
                    at++;
                }
            }
            System.arraycopy(best, taken, order, at, variedCount - taken);
        }
    }
}
