import java.util.NoSuchElementException;

/** LANGUAGE.md, rule 7: no call throws by itself, for any arguments in any state; row alone throws, what the document names. */
public final class OddArgumentsTest extends TestBase {
    private interface AnyCall {
        long of(PlaneColumn x, int[] a);
    }

    private record Call(String name, int takes, AnyCall ask) { }

    private static final int[] ODD = {LOW, -257, -1, 0, 1, 2, 8, 63, 64, 65, 255, 256, HIGH};
    private static final int[] FEW = {LOW, -1, 0, 1, 63, 64, 65, HIGH};
    private static final String[] STATES = {"", "77", "3,1,2,1", "9x64", "0x32,255x32", "0,255,1,254,2,253,3,252x57"};
    private static final int CALLS_EACH = 400;

    private static final Call[] CALLS = {
        new Call("column", 0, (x, a) -> x.column()), new Call("planes", 0, (x, a) -> x.planes()),
        new Call("adds", 1, (x, a) -> x.adds(a[0])), new Call("puts", 2, (x, a) -> x.puts(a[0], a[1])),
        new Call("cuts", 1, (x, a) -> x.cuts(a[0])), new Call("swaps", 2, (x, a) -> x.swaps(a[0], a[1])),
        new Call("reverses", 2, (x, a) -> x.reverses(a[0], a[1])), new Call("sign", 1, (x, a) -> x.sign(a[0])),
        new Call("end", 1, (x, a) -> x.end(a[0]) ? 1 : 0), new Call("level", 1, (x, a) -> x.level(a[0])),
        new Call("spot", 2, (x, a) -> x.spot(a[0], a[1])), new Call("from", 2, (x, a) -> x.from(a[0], a[1])),
        new Call("runs", 0, (x, a) -> x.runs()), new Call("thrift", 0, (x, a) -> x.thrift()),
        new Call("kth", 3, (x, a) -> x.kth(a[0], a[1], a[2])), new Call("rank", 2, (x, a) -> x.rank(a[0], a[1])),
        new Call("select", 2, (x, a) -> x.select(a[0], a[1])), new Call("band", 4, (x, a) -> x.band(a[0], a[1], a[2], a[3])),
        new Call("below", 3, (x, a) -> x.below(a[0], a[1], a[2])), new Call("above", 3, (x, a) -> x.above(a[0], a[1], a[2])),
        new Call("sums", 3, (x, a) -> x.sums(a[0], a[1], a[2])), new Call("often", 3, (x, a) -> x.often(a[0], a[1], a[2])),
        new Call("mode", 2, (x, a) -> x.mode(a[0], a[1])), new Call("across", 4, (x, a) -> x.across(a[0], a[1], a[2], a[3])),
        new Call("turned", 2, (x, a) -> x.turned(a[0], a[1])), new Call("spread", 3, (x, a) -> x.spread(a[0], a[1], a[2])),
        new Call("nearest", 2, (x, a) -> x.nearest(a[0], a[1])), new Call("dense", 3, (x, a) -> x.dense(a[0], a[1], a[2])),
        new Call("farthest", 3, (x, a) -> x.farthest(a[0], a[1], a[2])), new Call("fit", 3, (x, a) -> x.fit(a[0], a[1], a[2])),
        new Call("gap", 2, (x, a) -> x.gap(a[0], a[1])), new Call("narrow", 2, (x, a) -> x.narrow(a[0], a[1])),
        new Call("lone", 2, (x, a) -> x.lone(a[0], a[1])), new Call("rises", 2, (x, a) -> x.rises(a[0], a[1])),
        new Call("marks", 3, (x, a) -> x.marks(a[0], a[1], a[2])),
        new Call("common", 4, (x, a) -> x.common(a[0], a[1], a[2], a[3])),
        new Call("lacking", 4, (x, a) -> x.lacking(a[0], a[1], a[2], a[3])),
        new Call("both", 5, (x, a) -> x.both(a[0], a[1], a[2], a[3], a[4])),
        new Call("same", 4, (x, a) -> x.same(a[0], a[1], a[2], a[3])), new Call("count", 1, (x, a) -> x.count(a[0])),
        new Call("row", 1, (x, a) -> x.row(a[0]))};

    public static void main(String[] args) {
        for (Call call : CALLS) {
            for (String state : STATES) {
                test(call.name + " of [" + state + "]", () -> everyArgument(call, state));
            }
        }
        finish("OddArgumentsTest");
    }

    private static void everyArgument(Call call, String state) {
        int[] values = call.takes > 3 ? FEW : ODD;
        int all = 1;
        for (int i = 0; i < call.takes; i++) {
            all *= values.length;
        }
        PlaneColumn x = null;
        for (int n = 0; n < all; n++) {
            if (n % CALLS_EACH == 0) {
                x = of(state);
            }
            int[] a = new int[5];
            int rest = n;
            for (int i = 0; i < call.takes; i++) {
                a[i] = values[rest % values.length];
                rest /= values.length;
            }
            askOne(call, x, a);
        }
    }

    private static void askOne(Call call, PlaneColumn x, int[] a) {
        try {
            call.ask.of(x, a);
        } catch (NoSuchElementException e) {
            due(call.name, "row");
        } catch (RuntimeException e) {
            fail("threw " + e + " of " + java.util.Arrays.toString(a));
        }
    }
}
