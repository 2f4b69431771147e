import java.util.ArrayList;
import java.util.Arrays;
import java.util.Collections;
import java.util.List;
import java.util.NoSuchElementException;
import java.util.TreeMap;

/**
 * Runs of many calls, each answer and each ROW beside those of a slow model that follows the
 * document's words with the library's lists and maps.
 */
public final class OracleTest {
    private static final int OBJECTS = 3000;
    private static final int CALLS_EACH = 500;
    private static final String[] NAMES = {"column", "planes", "adds", "puts", "cuts", "swaps", "reverses", "sign", "end",
        "level", "spot", "from", "runs", "thrift", "kth", "rank", "select", "band", "below", "above", "sums", "often",
        "mode", "across", "turned", "spread", "nearest", "dense", "farthest", "fit", "gap", "narrow", "lone", "rises",
        "marks", "common", "lacking", "both", "same", "count", "row"};
    private static final int[] ODD = {Integer.MIN_VALUE, Integer.MIN_VALUE + 1, -257, -256, -65, -2, -1, 0, 1, 2, 4, 5, 7,
        8, 9, 63, 64, 65, 99, 100, 101, 127, 128, 254, 255, 256, 257, 1000, Integer.MAX_VALUE - 1, Integer.MAX_VALUE};
    private static long seed = 20261118L;
    private static int wrong = 0;
    private static final int[] asked = new int[NAMES.length];
    private static final int[] granted = new int[NAMES.length];
    private static int thrifts = 0;

    public static void main(String[] args) {
        for (int i = 0; i < OBJECTS && wrong < 20; i++) {
            runOne(i);
        }
        for (int i = 0; i < NAMES.length; i++) {
            if (granted[i] == 0 || asked[i] < 20) {
                wrong++;
                System.out.println("too few calls of " + NAMES[i] + ": " + asked[i] + ", " + granted[i] + " not refused");
            }
        }
        System.out.println(wrong == 0 ? "OracleTest: all answers are as due" : "OracleTest: " + wrong + " wrong");
        if (wrong != 0) {
            System.exit(1);
        }
    }

    private static int next(int bound) {
        seed = seed * 6364136223846793005L + 1442695040888963407L;
        return (int) ((seed >>> 33) % bound);
    }

    // ---- one run

    private static void runOne(int run) {
        PlaneColumn x = new PlaneColumn();
        Model m = new Model();
        int range = new int[] {2, 4, 16, 64, 256}[next(5)];
        int base = next(2) == 0 ? 0 : next(257 - range);
        int wish = new int[] {0, 1, 3, 8, 20, 40, 63, 64}[next(8)];
        StringBuilder story = new StringBuilder();
        int calls = 0;
        for (int i = 0; i < wish; i++) {
            int v = base + next(range);
            x.adds(v);
            m.adds(v);
            calls++;
        }
        story.append(m.numbers);
        while (calls < CALLS_EACH - 80 && wrong < 20) {
            int op = next(NAMES.length);
            if (NAMES[op].equals("thrift") && (thrifts >= 150 || next(4) != 0)) {
                continue;
            }
            calls += writeText(op, x, m, range, base);
            int[] a = new int[5];
            fillArguments(NAMES[op], a, m, base, range);
            String call = NAMES[op] + Arrays.toString(a);
            story.append("\n  ").append(call);
            compare(run, story, call, op, a, x, m);
            calls += 1 + compareRow(run, story, call, x, m);
        }
    }

    private static void compare(int run, StringBuilder story, String call, int op, int[] a, PlaneColumn x, Model m) {
        String got;
        try {
            got = Long.toString(ask(NAMES[op], a, x));
        } catch (NoSuchElementException e) {
            got = "NoSuchElementException";
        } catch (RuntimeException e) {
            got = "thrown: " + e;
        }
        String want;
        try {
            want = Long.toString(m.ask(NAMES[op], a));
        } catch (NoSuchElementException e) {
            want = "NoSuchElementException";
        }
        asked[op]++;
        if (!want.startsWith("-") && !want.startsWith("N")) {
            granted[op]++;
        }
        story.append(" = ").append(got);
        if (!got.equals(want)) {
            tell(run, story, call + " answered " + got + ", due is " + want);
        }
    }

    private static int compareRow(int run, StringBuilder story, String call, PlaneColumn x, Model m) {
        List<Long> got = new ArrayList<>();
        int size = x.count(2);
        for (int i = 0; i < size; i++) {
            got.add(x.row(i));
        }
        if (!got.equals(m.row)) {
            tell(run, story, "behind " + call + " the ROW is " + got + ", due is " + m.row);
        }
        if (x.count(0) != m.numbers.size() || x.count(1) != m.text.length()) {
            tell(run, story, "behind " + call + " there are " + x.count(0) + " numbers, " + x.count(1) + " signs");
        }
        for (int i = 0; i < m.numbers.size() && i < x.count(0); i += 16) {
            if (x.rank(m.numbers.get(i), i + 1) - x.rank(m.numbers.get(i), i) != 1) {
                tell(run, story, "behind " + call + " the number at " + i + " is not " + m.numbers.get(i));
            }
        }
        return 3;
    }

    private static void tell(int run, StringBuilder story, String what) {
        wrong++;
        System.out.println("run " + run + ": " + what);
        if (wrong == 1) {
            System.out.println(story);
        }
    }

    private static int number(int base, int range) {
        return next(10) == 0 ? ODD[next(ODD.length)] : base + next(range);
    }

    private static int small(int bound) {
        return next(8) == 0 ? ODD[next(ODD.length)] : next(bound);
    }

    private static void span(int[] a, int at, Model m) {
        int n = m.numbers.size();
        int one = next(n + 1);
        int other = next(n + 1);
        a[at] = next(4) == 0 ? 0 : Math.min(one, other);
        a[at + 1] = next(4) == 0 ? n : Math.max(one, other);
        if (next(12) == 0) {
            a[at + next(2)] = ODD[next(ODD.length)];
        }
        if (next(30) == 0) {
            a[at] = a[at + 1] + 1;
        }
    }

    private static void fillArguments(String name, int[] a, Model m, int base, int range) {
        int n = m.numbers.size();
        switch (name) {
            case "adds":
                a[0] = number(base, range);
                return;
            case "puts":
                a[0] = small(n + 1);
                a[1] = number(base, range);
                return;
            case "cuts":
                a[0] = next(3) == 0 ? small(n + 1) : -1;
                return;
            case "swaps":
                a[0] = small(n + 1);
                a[1] = small(n + 1);
                return;
            case "end":
                a[0] = small(m.text.length() + 2);
                return;
            case "sign":
                a[0] = next(2) == 0 ? ODD[next(ODD.length)] : '1' << 24 | ',' << 16 | '0' << 8 | '/';
                return;
            case "level":
                a[0] = small(9);
                return;
            case "spot":
                a[0] = small(n + 1);
                a[1] = small(9);
                return;
            case "from":
                a[0] = small(9);
                a[1] = small(n + 1);
                return;
            case "rank":
            case "select":
                a[0] = number(base, range);
                a[1] = small(name.equals("rank") ? n + 1 : 4);
                return;
            case "narrow":
                a[0] = number(base, range);
                a[1] = 1 + small(4);
                return;
            case "count":
                a[0] = small(7);
                return;
            case "row":
                a[0] = small(m.row.size() + 1);
                return;
            case "column":
            case "planes":
            case "runs":
            case "thrift":
                return;
            default:
                fillSpans(name, a, m, base, range);
        }
    }

    private static void fillSpans(String name, int[] a, Model m, int base, int range) {
        int n = m.numbers.size();
        span(a, 0, m);
        a[2] = small(n + 2);
        switch (name) {
            case "band":
                a[2] = number(base, range);
                a[3] = next(6) == 0 ? number(base, range) : Math.max(a[2], number(base, range));
                return;
            case "below":
            case "above":
            case "marks":
                a[2] = number(base, range);
                return;
            case "often":
                a[2] = 1 + small(4);
                return;
            case "across":
                a[2] = next(3) == 0 ? next(256) : number(base, range);
                a[3] = small(n + 2);
                return;
            case "spread":
                a[2] = small(6);
                return;
            case "dense":
                a[2] = next(3) == 0 ? ODD[next(ODD.length)] : next(range);
                return;
            case "farthest":
                a[2] = next(3) == 0 ? next(256) : number(base, range);
                return;
            case "fit":
                a[2] = next(3) == 0 ? ODD[next(ODD.length)] : next(64 * 255);
                return;
            case "common":
            case "lacking":
            case "both":
            case "same":
                span(a, 2, m);
                a[4] = small(2 * n + 2);
                return;
            default:
        }
    }

    // ---- texts

    private static int writeText(int op, PlaneColumn x, Model m, int range, int base) {
        boolean column = NAMES[op].equals("column");
        if (!column && !NAMES[op].equals("planes") || next(20) == 0) {
            return 0;
        }
        StringBuilder text = new StringBuilder(column ? columnText(range, base) : planesText());
        for (int i = next(3); i > 0 && text.length() > 0; i--) {
            spoil(text);
        }
        if (text.length() > 100) {
            text.setLength(100);
        }
        x.end(0);
        m.end(0);
        int calls = 2;
        for (int i = 0; i < text.length(); i += 4) {
            int v = 0;
            for (int k = i; k < i + 4; k++) {
                v = v << 8 | (k < text.length() ? text.charAt(k) : 0);
            }
            x.sign(v);
            m.sign(v);
            calls++;
        }
        x.end(text.length());
        m.end(text.length());
        return calls;
    }

    private static String columnText(int range, int base) {
        StringBuilder text = new StringBuilder();
        int parts = next(9) == 0 ? 25 : next(9);
        int most = next(2) == 0 ? 4 : 30;
        for (int i = 0; i < parts; i++) {
            text.append(i == 0 ? "" : ",");
            text.append(next(10) == 0 ? "00" : "").append(next(15) == 0 ? next(1200) : base + next(range));
            if (next(2) == 0) {
                text.append('x').append(next(10) == 0 ? "0" : "").append(next(10) == 0 ? next(120) : 1 + next(most));
            }
        }
        return text.toString();
    }

    private static String planesText() {
        int width = next(13);
        StringBuilder text = new StringBuilder();
        for (int j = 0; j < (next(10) == 0 ? 9 : 8); j++) {
            text.append(j == 0 ? "" : "/");
            for (int i = next(40) == 0 ? 1 : 0; i < width; i++) {
                text.append((char) ('0' + next(2)));
            }
        }
        return text.toString();
    }

    private static void spoil(StringBuilder text) {
        int at = next(text.length());
        char other = "0123456789,,xx/ #\u0000\u00ff".charAt(next(19));
        switch (next(4)) {
            case 0:
                text.setCharAt(at, other);
                return;
            case 1:
                text.insert(at, other);
                return;
            case 2:
                text.deleteCharAt(at);
                return;
            default:
                text.append(other);
        }
    }

    // ---- the class that is tested

    private static long ask(String name, int[] a, PlaneColumn x) {
        switch (name) {
            case "column": return x.column();
            case "planes": return x.planes();
            case "adds": return x.adds(a[0]);
            case "puts": return x.puts(a[0], a[1]);
            case "cuts": return x.cuts(a[0]);
            case "swaps": return x.swaps(a[0], a[1]);
            case "reverses": return x.reverses(a[0], a[1]);
            case "sign": return x.sign(a[0]);
            case "end": return x.end(a[0]) ? 1 : 0;
            case "level": return x.level(a[0]);
            case "spot": return x.spot(a[0], a[1]);
            case "from": return x.from(a[0], a[1]);
            case "runs": return x.runs();
            case "thrift": return x.thrift();
            case "kth": return x.kth(a[0], a[1], a[2]);
            case "rank": return x.rank(a[0], a[1]);
            case "select": return x.select(a[0], a[1]);
            case "band": return x.band(a[0], a[1], a[2], a[3]);
            case "below": return x.below(a[0], a[1], a[2]);
            case "above": return x.above(a[0], a[1], a[2]);
            case "sums": return x.sums(a[0], a[1], a[2]);
            case "often": return x.often(a[0], a[1], a[2]);
            case "mode": return x.mode(a[0], a[1]);
            case "across": return x.across(a[0], a[1], a[2], a[3]);
            case "turned": return x.turned(a[0], a[1]);
            case "spread": return x.spread(a[0], a[1], a[2]);
            case "nearest": return x.nearest(a[0], a[1]);
            case "dense": return x.dense(a[0], a[1], a[2]);
            case "farthest": return x.farthest(a[0], a[1], a[2]);
            case "fit": return x.fit(a[0], a[1], a[2]);
            case "gap": return x.gap(a[0], a[1]);
            case "narrow": return x.narrow(a[0], a[1]);
            case "lone": return x.lone(a[0], a[1]);
            case "rises": return x.rises(a[0], a[1]);
            case "marks": return x.marks(a[0], a[1], a[2]);
            case "common": return x.common(a[0], a[1], a[2], a[3]);
            case "lacking": return x.lacking(a[0], a[1], a[2], a[3]);
            case "both": return x.both(a[0], a[1], a[2], a[3], a[4]);
            case "same": return x.same(a[0], a[1], a[2], a[3]);
            case "count": return x.count(a[0]);
            case "row": return x.row(a[0]);
            default: throw new IllegalStateException(name);
        }
    }

    // ---- the model

    private static final class Model {
        final List<Integer> numbers = new ArrayList<>();
        List<Long> row = new ArrayList<>();
        String text = "";

        long ask(String name, int[] a) {
            switch (name) {
                case "column": return column();
                case "planes": return planes();
                case "adds": return adds(a[0]);
                case "puts": return puts(a[0], a[1]);
                case "cuts": return has(a[0]) ? numbers.remove(a[0]) : -2;
                case "swaps": return swaps(a[0], a[1]);
                case "reverses": return reverses(a[0], a[1]);
                case "sign": return sign(a[0]);
                case "end": return end(a[0]) ? 1 : 0;
                case "level": return level(a[0]);
                case "spot": return spot(a[0], a[1]);
                case "from": return from(a[0], a[1]);
                case "runs": return runs();
                case "thrift": return thrift();
                case "rank": return rank(a[0], a[1]);
                case "select": return select(a[0], a[1]);
                case "narrow": return narrow(a[0], a[1]);
                case "count": return count(a[0]);
                case "row":
                    if (a[0] < 0 || a[0] >= row.size()) {
                        throw new NoSuchElementException();
                    }
                    return row.get(a[0]);
                default: return askSpan(name, a);
            }
        }

        long askSpan(String name, int[] a) {
            if (a[0] < 0 || a[0] > a[1] || a[1] > numbers.size()) {
                return -1;
            }
            List<Integer> span = numbers.subList(a[0], a[1]);
            switch (name) {
                case "kth": return kth(span, a[0], a[2]);
                case "band": return band(span, a[2], a[3]);
                case "below": return beside(span, a[2], 1, 256, true);
                case "above": return beside(span, a[2], -1, 254, false);
                case "sums": return sums(span, a[2]);
                case "often": return often(span, a[2]);
                case "mode": return mode(span);
                case "across": return across(span, a[2], a[3]);
                case "turned": return turned(span);
                case "spread": return spread(span, a[2]);
                case "nearest": return nearest(span);
                case "dense": return dense(span, a[2]);
                case "farthest": return farthest(span, a[2]);
                case "fit": return fit(span, a[2]);
                case "gap": return gap(span);
                case "lone": return lone(span);
                case "rises": return rises(span);
                case "marks": return marks(a[0], a[1], a[2]);
                default:
            }
            if (a[2] < 0 || a[2] > a[3] || a[3] > numbers.size()) {
                return -1;
            }
            List<Integer> other = numbers.subList(a[2], a[3]);
            switch (name) {
                case "common": return common(span, other);
                case "lacking": return lacking(span, other);
                case "both": return both(span, other, a[4]);
                case "same": return same(span, other);
                default: throw new IllegalStateException(name);
            }
        }

        boolean has(int place) {
            return place >= 0 && place < numbers.size();
        }

        static boolean isNumber(int v) {
            return v >= 0 && v <= 255;
        }

        void tell(long... told) {
            row = new ArrayList<>();
            for (long one : told) {
                row.add(one);
            }
        }

        static List<Integer> sorted(List<Integer> span) {
            List<Integer> copy = new ArrayList<>(span);
            Collections.sort(copy);
            return copy;
        }

        static TreeMap<Integer, Integer> times(List<Integer> span) {
            TreeMap<Integer, Integer> map = new TreeMap<>();
            for (int v : span) {
                map.merge(v, 1, Integer::sum);
            }
            return map;
        }

        static int of(TreeMap<Integer, Integer> times, int v) {
            return times.getOrDefault(v, 0);
        }

        // The places in the order of LEVEL j.
        List<Integer> order(int j) {
            List<Integer> places = new ArrayList<>();
            for (int i = 0; i < numbers.size(); i++) {
                places.add(i);
            }
            for (int level = 0; level < j; level++) {
                List<Integer> zeros = new ArrayList<>();
                List<Integer> ones = new ArrayList<>();
                for (int place : places) {
                    (bit(numbers.get(place), level) == 0 ? zeros : ones).add(place);
                }
                zeros.addAll(ones);
                places = zeros;
            }
            return places;
        }

        static int bit(int v, int level) {
            return v / (128 >> level) % 2;
        }

        String bits(int j) {
            StringBuilder all = new StringBuilder();
            for (int place : order(j)) {
                all.append(bit(numbers.get(place), j));
            }
            return all.toString();
        }

        String allBits() {
            StringBuilder all = new StringBuilder();
            for (int j = 0; j < 8; j++) {
                all.append(bits(j));
            }
            return all.toString();
        }

        static int unlike(String one, String other) {
            int found = 0;
            for (int i = 0; i < one.length(); i++) {
                found += one.charAt(i) == other.charAt(i) ? 0 : 1;
            }
            return found;
        }

        static int runsOf(String bits) {
            int found = 0;
            for (int i = 0; i < bits.length(); i++) {
                found += i == 0 || bits.charAt(i) != bits.charAt(i - 1) ? 1 : 0;
            }
            return found;
        }

        long column() {
            String told = text;
            text = "";
            List<Integer> found = new ArrayList<>();
            int at = 0;
            if (!told.isEmpty()) {
                while (true) {
                    int comma = told.indexOf(',', at);
                    String part = told.substring(at, comma < 0 ? told.length() : comma);
                    int wrong = part(part, at, found);
                    if (wrong >= 0) {
                        return -1 - wrong;
                    }
                    if (comma < 0) {
                        break;
                    }
                    at = comma + 1;
                }
            }
            numbers.clear();
            numbers.addAll(found);
            return numbers.size();
        }

        // Where the part that begins at a place of the text is wrong, or -1.
        static int part(String part, int begin, List<Integer> found) {
            String digits = leadingDigits(part);
            int wrong = digitsWrong(digits, 3, 0, 255);
            if (wrong >= 0) {
                return begin + wrong;
            }
            String rest = part.substring(digits.length());
            int times = 1;
            if (rest.startsWith("x")) {
                String often = leadingDigits(rest.substring(1));
                wrong = digitsWrong(often, 2, 1, 64);
                if (wrong >= 0) {
                    return begin + digits.length() + 1 + wrong;
                }
                times = Integer.parseInt(often);
                rest = rest.substring(1 + often.length());
            }
            if (found.size() + times > 64) {
                return begin;
            }
            if (!rest.isEmpty()) {
                return begin + part.length() - rest.length();
            }
            found.addAll(Collections.nCopies(times, Integer.parseInt(digits)));
            return -1;
        }

        static String leadingDigits(String s) {
            return s.replaceFirst("(?s)[^0-9].*", "");
        }

        static int digitsWrong(String digits, int most, int least, int greatest) {
            if (digits.isEmpty()) {
                return 0;
            }
            String head = digits.substring(0, Math.min(most, digits.length()));
            int value = Integer.parseInt(head);
            if (value < least || value > greatest) {
                return head.length() - 1;
            }
            return digits.length() > most ? most : -1;
        }

        long planes() {
            String told = text;
            text = "";
            List<String> rows = new ArrayList<>();
            String now = "";
            for (int p = 0; p <= told.length(); p++) {
                char c = p < told.length() ? told.charAt(p) : '$';
                int width = rows.isEmpty() ? 11 : rows.get(0).length();
                if ((c == '0' || c == '1') && now.length() < width) {
                    now += c;
                } else if (c == '/' && rows.size() < 7 && (rows.isEmpty() || now.length() == width)) {
                    rows.add(now);
                    now = "";
                } else if (c == '$' && p == told.length() && rows.size() == 7 && now.length() == width) {
                    rows.add(now);
                } else {
                    return -1 - p;
                }
            }
            numbers.clear();
            numbers.addAll(fromRows(rows));
            return numbers.size();
        }

        static List<Integer> fromRows(List<String> rows) {
            int n = rows.get(0).length();
            List<Integer> found = new ArrayList<>(Collections.nCopies(n, 0));
            List<Integer> places = new ArrayList<>();
            for (int i = 0; i < n; i++) {
                places.add(i);
            }
            for (String bits : rows) {
                List<Integer> zeros = new ArrayList<>();
                List<Integer> ones = new ArrayList<>();
                for (int s = 0; s < n; s++) {
                    int bit = bits.charAt(s) - '0';
                    found.set(places.get(s), found.get(places.get(s)) * 2 + bit);
                    (bit == 0 ? zeros : ones).add(places.get(s));
                }
                zeros.addAll(ones);
                places = zeros;
            }
            return found;
        }

        long adds(int v) {
            if (!isNumber(v)) {
                return -1;
            }
            if (numbers.size() == 64) {
                return -3;
            }
            numbers.add(v);
            return numbers.size();
        }

        long puts(int place, int v) {
            if (!isNumber(v)) {
                return -1;
            }
            if (!has(place)) {
                return -2;
            }
            if (numbers.get(place) == v) {
                return -4;
            }
            String before = allBits();
            int was = numbers.set(place, v);
            tell(unlike(before, allBits()));
            return was;
        }

        long swaps(int one, int other) {
            if (!has(one) || !has(other) || one == other) {
                return -2;
            }
            String before = allBits();
            Collections.swap(numbers, one, other);
            return unlike(before, allBits());
        }

        long reverses(int l, int r) {
            if (l < 0 || l > r || r > numbers.size()) {
                return -1;
            }
            String before = allBits();
            Collections.reverse(numbers.subList(l, r));
            return unlike(before, allBits());
        }

        long sign(int v) {
            if (text.length() > 96) {
                return -1;
            }
            for (int i = 24; i >= 0; i -= 8) {
                text += (char) (v >> i & 255);
            }
            return text.length();
        }

        boolean end(int n) {
            if (n < 0 || n > text.length()) {
                return false;
            }
            text = text.substring(0, n);
            return true;
        }

        long level(int j) {
            if (j < 0 || j > 7) {
                return -1;
            }
            String bits = bits(j);
            String reversed = new StringBuilder(bits).reverse().toString();
            tell(bits.isEmpty() ? 0 : Long.parseUnsignedLong(reversed, 2), runsOf(bits));
            return bits.replace("1", "").length();
        }

        long spot(int place, int j) {
            if (j < 0 || j > 8) {
                return -1;
            }
            if (!has(place)) {
                return -2;
            }
            tell(numbers.get(place) / (256 >> j));
            return order(j).indexOf(place);
        }

        long from(int j, int spot) {
            if (j < 0 || j > 8) {
                return -1;
            }
            if (!has(spot)) {
                return -2;
            }
            int place = order(j).get(spot);
            tell(numbers.get(place));
            return place;
        }

        long runs() {
            long[] each = new long[8];
            long all = 0;
            for (int j = 0; j < 8; j++) {
                each[j] = runsOf(bits(j));
                all += each[j];
            }
            tell(each);
            return all;
        }

        long thrift() {
            thrifts++;
            int[] line = new int[numbers.size()];
            for (int i = 0; i < line.length; i++) {
                line[i] = numbers.get(i);
            }
            long[] best = {Long.MAX_VALUE, 0, 0, 0, 0, 0, 0, 0, 0};
            allOrders(line, new long[8], 0, 0, best);
            tell(Arrays.copyOfRange(best, 1, 9));
            return best[0];
        }

        // Every order is tried, the greater bits first, and each counted to its end.
        static void allOrders(int[] line, long[] order, int depth, long runs, long[] best) {
            if (depth == 8) {
                if (runs < best[0]) {
                    best[0] = runs;
                    System.arraycopy(order, 0, best, 1, 8);
                }
                return;
            }
            for (int bit = 7; bit >= 0; bit--) {
                boolean used = false;
                for (int i = 0; i < depth; i++) {
                    used |= order[i] == bit;
                }
                if (used) {
                    continue;
                }
                int[] parted = new int[line.length];
                int at = 0;
                int here = 0;
                for (int want = 0; want < 2; want++) {
                    for (int v : line) {
                        if ((v >> bit & 1) == want) {
                            parted[at++] = v;
                        }
                    }
                }
                for (int i = 0; i < line.length; i++) {
                    here += i == 0 || (line[i] >> bit & 1) != (line[i - 1] >> bit & 1) ? 1 : 0;
                }
                order[depth] = bit;
                allOrders(parted, order, depth + 1, runs + here, best);
            }
        }

        long kth(List<Integer> span, int l, int k) {
            if (k < 0) {
                return -1;
            }
            if (k >= span.size()) {
                return -2;
            }
            int v = sorted(span).get(k);
            tell(Collections.frequency(span, v), l + span.indexOf(v));
            return v;
        }

        long rank(int v, int i) {
            if (!isNumber(v) || i < 0 || i > numbers.size()) {
                return -1;
            }
            return Collections.frequency(numbers.subList(0, i), v);
        }

        long select(int v, int k) {
            if (!isNumber(v) || k < 0) {
                return -1;
            }
            List<Integer> places = new ArrayList<>();
            for (int i = 0; i < numbers.size(); i++) {
                if (numbers.get(i) == v) {
                    places.add(i);
                }
            }
            return k < places.size() ? places.get(k) : -2;
        }

        static int inNode(List<Integer> span, int least, int greatest) {
            int found = 0;
            for (int v : span) {
                found += v >= least && v <= greatest ? 1 : 0;
            }
            return found;
        }

        static int walkBand(List<Integer> span, int least, int greatest, int a, int b) {
            if (inNode(span, least, greatest) == 0 || greatest < a || least > b) {
                return 0;
            }
            if (least >= a && greatest <= b) {
                return 1;
            }
            int middle = (least + greatest) / 2;
            return 1 + walkBand(span, least, middle, a, b) + walkBand(span, middle + 1, greatest, a, b);
        }

        long band(List<Integer> span, int a, int b) {
            if (!isNumber(a) || !isNumber(b) || a > b) {
                return -1;
            }
            tell(walkBand(span, 0, 255, a, b));
            return inNode(span, a, b);
        }

        long beside(List<Integer> span, int v, int least, int greatest, boolean below) {
            if (v < least || v > greatest) {
                return -1;
            }
            Integer found = below ? times(span).lowerKey(v) : times(span).higherKey(v);
            if (found == null) {
                return -2;
            }
            tell(Collections.frequency(span, found));
            return found;
        }

        long sums(List<Integer> span, int k) {
            if (k < 0) {
                return -1;
            }
            if (k > span.size()) {
                return -2;
            }
            List<Integer> all = sorted(span);
            int least = all.subList(0, k).stream().mapToInt(i -> i).sum();
            tell(all.subList(all.size() - k, all.size()).stream().mapToInt(i -> i).sum());
            return least;
        }

        static int walkOften(List<Integer> span, int least, int greatest, int m) {
            if (inNode(span, least, greatest) < m) {
                return 0;
            }
            if (least == greatest) {
                return 1;
            }
            int middle = (least + greatest) / 2;
            return 1 + walkOften(span, least, middle, m) + walkOften(span, middle + 1, greatest, m);
        }

        long often(List<Integer> span, int m) {
            if (m < 1 || m > 64) {
                return -1;
            }
            tell(walkOften(span, 0, 255, m));
            int found = 0;
            for (var one : times(span).entrySet()) {
                if (one.getValue() >= m && ++found <= 16) {
                    row.add((long) one.getKey());
                    row.add((long) one.getValue());
                }
            }
            return found;
        }

        long mode(List<Integer> span) {
            if (span.isEmpty()) {
                return -2;
            }
            int most = Collections.max(times(span).values());
            tell(most);
            for (var one : times(span).entrySet()) {
                if (one.getValue() == most) {
                    return one.getKey();
                }
            }
            throw new IllegalStateException();
        }

        long across(List<Integer> span, int x, int k) {
            if (!isNumber(x) || k < 0) {
                return -1;
            }
            if (k >= span.size()) {
                return -2;
            }
            List<Integer> all = new ArrayList<>();
            for (int v : span) {
                all.add(v ^ x);
            }
            Collections.sort(all);
            tell(all.get(k) ^ x);
            return all.get(k);
        }

        long turned(List<Integer> span) {
            int greater = 0;
            int like = 0;
            for (int j = 0; j < span.size(); j++) {
                for (int i = 0; i < j; i++) {
                    greater += span.get(i) > span.get(j) ? 1 : 0;
                    like += span.get(i).equals(span.get(j)) ? 1 : 0;
                }
            }
            tell(like);
            return greater;
        }

        long spread(List<Integer> span, int p) {
            if (p < 1 || p > 4) {
                return -1;
            }
            long[] each = new long[1 << p];
            for (int v : span) {
                each[v * each.length / 256]++;
            }
            tell(each);
            return Arrays.stream(each).filter(c -> c > 0).count();
        }

        long nearest(List<Integer> span) {
            if (span.size() < 2) {
                return -2;
            }
            long[] best = {256, 0, 0};
            for (int i = 0; i < span.size(); i++) {
                for (int j = 0; j < i; j++) {
                    long[] now = {span.get(i) ^ span.get(j), Math.min(span.get(i), span.get(j)), Math.max(span.get(i), span.get(j))};
                    best = Arrays.compare(now, best) < 0 ? now : best;
                }
            }
            tell(best[1], best[2]);
            return best[0];
        }

        long dense(List<Integer> span, int w) {
            if (w < 0 || w > 255) {
                return -1;
            }
            int most = 0;
            int least = -1;
            for (int v : times(span).keySet()) {
                int found = inNode(span, v, v + w);
                if (found > most) {
                    most = found;
                    least = v;
                }
            }
            tell(least);
            return most;
        }

        long farthest(List<Integer> span, int x) {
            if (!isNumber(x)) {
                return -1;
            }
            int best = -2;
            for (int v : span) {
                best = Math.max(best, v ^ x);
            }
            if (best >= 0) {
                tell(best ^ x, Collections.frequency(span, best ^ x));
            }
            return best;
        }

        long fit(List<Integer> span, int sum) {
            if (sum < 0) {
                return -1;
            }
            List<Integer> all = sorted(span);
            for (int k = all.size(); ; k--) {
                int together = all.subList(0, k).stream().mapToInt(i -> i).sum();
                if (together <= sum) {
                    tell(together);
                    return k;
                }
            }
        }

        long gap(List<Integer> span) {
            if (span.size() < 2) {
                return -2;
            }
            List<Integer> all = sorted(span);
            int best = -1;
            for (int i = 1; i < all.size(); i++) {
                int step = all.get(i) - all.get(i - 1);
                if (step > best) {
                    best = step;
                    tell(all.get(i - 1), all.get(i));
                }
            }
            return best;
        }

        // All SPANS are looked at.
        long narrow(int v, int m) {
            if (!isNumber(v) || m < 1 || m > 64) {
                return -1;
            }
            int n = numbers.size();
            for (int length = m; length <= n; length++) {
                int first = -1;
                int spans = 0;
                for (int l = 0; l + length <= n; l++) {
                    if (Collections.frequency(numbers.subList(l, l + length), v) == m) {
                        first = first < 0 ? l : first;
                        spans++;
                    }
                }
                if (spans > 0) {
                    tell(first, first + length, spans);
                    return length;
                }
            }
            return -2;
        }

        long lone(List<Integer> span) {
            TreeMap<Integer, Integer> all = times(span);
            all.values().removeIf(t -> t != 1);
            tell(all.isEmpty() ? -1 : all.firstKey(), all.isEmpty() ? -1 : all.lastKey());
            return all.size();
        }

        // ways.get(k)[v]: choices of k places, the last of which has the number v.
        long rises(List<Integer> span) {
            java.math.BigInteger[][] ways = new java.math.BigInteger[span.size() + 1][256];
            for (java.math.BigInteger[] one : ways) {
                Arrays.fill(one, java.math.BigInteger.ZERO);
            }
            for (int v : span) {
                for (int k = span.size(); k >= 1; k--) {
                    java.math.BigInteger more = k == 1 ? java.math.BigInteger.ONE : java.math.BigInteger.ZERO;
                    for (int lesser = 0; k > 1 && lesser < v; lesser++) {
                        if (ways[k - 1][lesser].signum() > 0) {
                            more = more.add(ways[k - 1][lesser]);
                        }
                    }
                    if (more.signum() > 0) {
                        ways[k][v] = ways[k][v].add(more);
                    }
                }
            }
            for (int k = span.size(); k >= 1; k--) {
                java.math.BigInteger all = java.math.BigInteger.ZERO;
                int least = -1;
                for (int v = 255; v >= 0; v--) {
                    all = all.add(ways[k][v]);
                    least = ways[k][v].signum() > 0 ? v : least;
                }
                if (least >= 0) {
                    tell(least, all.min(java.math.BigInteger.valueOf(1000000000)).longValue());
                    return k;
                }
            }
            tell(-1, 0);
            return 0;
        }

        long marks(int l, int r, int v) {
            if (!isNumber(v)) {
                return -1;
            }
            tell();
            int found = 0;
            for (int i = l; i < r; i++) {
                if (numbers.get(i) == v && ++found <= 32) {
                    row.add((long) i);
                }
            }
            return found;
        }

        static int walkCommon(List<Integer> span, List<Integer> other, int least, int greatest) {
            if (inNode(span, least, greatest) == 0 || inNode(other, least, greatest) == 0) {
                return 0;
            }
            if (least == greatest) {
                return 1;
            }
            int middle = (least + greatest) / 2;
            return 1 + walkCommon(span, other, least, middle) + walkCommon(span, other, middle + 1, greatest);
        }

        long common(List<Integer> span, List<Integer> other) {
            tell(walkCommon(span, other, 0, 255));
            int found = 0;
            for (int v : times(span).keySet()) {
                if (other.contains(v) && ++found <= 16) {
                    row.add((long) v);
                    row.add((long) Collections.frequency(span, v));
                    row.add((long) Collections.frequency(other, v));
                }
            }
            return found;
        }

        long lacking(List<Integer> span, List<Integer> other) {
            tell();
            int found = 0;
            for (int v : times(span).keySet()) {
                if (!other.contains(v) && ++found <= 16) {
                    row.add((long) v);
                    row.add((long) Collections.frequency(span, v));
                }
            }
            return found;
        }

        long both(List<Integer> span, List<Integer> other, int k) {
            if (k < 0) {
                return -1;
            }
            List<Integer> all = new ArrayList<>(span);
            all.addAll(other);
            if (k >= all.size()) {
                return -2;
            }
            int v = sorted(all).get(k);
            tell(Collections.frequency(span, v), Collections.frequency(other, v));
            return v;
        }

        long same(List<Integer> span, List<Integer> other) {
            List<Integer> one = new ArrayList<>(span);
            List<Integer> two = new ArrayList<>(other);
            for (Integer v : span) {
                if (two.remove(v)) {
                    one.remove(v);
                }
            }
            List<Integer> alone = new ArrayList<>(one);
            alone.addAll(two);
            tell(alone.isEmpty() ? -1 : Collections.min(alone), one.size(), two.size());
            return alone.isEmpty() ? 1 : 0;
        }

        long count(int what) {
            switch (what) {
                case 0: return numbers.size();
                case 1: return text.length();
                case 2: return row.size();
                case 3: return times(numbers).size();
                case 4: return numbers.stream().mapToInt(i -> i).sum();
                case 5: return allBits().replace("0", "").length();
                default: return -1;
            }
        }
    }
}
