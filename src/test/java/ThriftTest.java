/**
 * Promise 15 where bits that all NUMBERS have alike lie between others: such a bit has one run anywhere, so
 * many orders are equal, and the one with the greater bit at the first unlike LEVEL is asked for.
 */
public final class ThriftTest extends TestBase {
    private static final int COLUMNS_EACH = 4;
    private static final int[] MASKS = {0x81, 0x55, 0xAA, 0x18, 0xE7, 0x3C, 0xC3, 0x92, 0x49, 0x11, 0x7E, 0xF0, 0x0F, 0xFF};
    private static final int[] SIZES = {2, 5, 11, 24};

    private static long seed = 15L;
    private static final int[] tried = new int[8];
    private static long[] best = new long[8];
    private static int fewest = 0;

    public static void main(String[] args) {
        for (int mask : MASKS) {
            for (int i = 0; i < COLUMNS_EACH; i++) {
                int[] numbers = numbersWith(mask, SIZES[i % SIZES.length]);
                test("15 thrift: " + java.util.Arrays.toString(numbers), () -> beside(numbers));
            }
        }
        finish("ThriftTest");
    }

    private static int next(int bound) {
        seed = seed * 6364136223846793005L + 1442695040888963407L;
        return (int) ((seed >>> 33) % bound);
    }

    /** Bits outside the mask are alike in all NUMBERS, some of them 0 and some 1. */
    private static int[] numbersWith(int mask, int size) {
        int alike = next(256) & ~mask;
        int[] numbers = new int[size];
        for (int i = 0; i < size; i++) {
            numbers[i] = alike | next(256) & mask;
        }
        return numbers;
    }

    private static void beside(int[] numbers) {
        fewest = Integer.MAX_VALUE;
        tryAll(0, 0, numbers, 0);
        PlaneColumn x = with(numbers);
        due(x, x.thrift(), fewest, best);
    }

    /** All 40,320 orders, the greater bit first, none left out. */
    private static void tryAll(int level, int used, int[] line, int runs) {
        if (level == 8) {
            if (runs < fewest) {
                fewest = runs;
                best = java.util.Arrays.stream(tried).asLongStream().toArray();
            }
            return;
        }
        for (int bit = 7; bit >= 0; bit--) {
            if ((used >> bit & 1) == 0) {
                tried[level] = bit;
                tryAll(level + 1, used | 1 << bit, parted(line, bit), runs + runsOf(line, bit));
            }
        }
    }

    private static int runsOf(int[] line, int bit) {
        int runs = 1;
        for (int i = 1; i < line.length; i++) {
            runs += (line[i] ^ line[i - 1]) >> bit & 1;
        }
        return runs;
    }

    private static int[] parted(int[] line, int bit) {
        int[] next = new int[line.length];
        int at = 0;
        for (int worth = 0; worth < 2; worth++) {
            for (int number : line) {
                if ((number >> bit & 1) == worth) {
                    next[at] = number;
                    at++;
                }
            }
        }
        return next;
    }
}
