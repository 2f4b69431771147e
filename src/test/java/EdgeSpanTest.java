/** Each sentence of promises 16 to 36 that names a boundary case. What binds every SPAN stands in EdgeTermsTest. */
public final class EdgeSpanTest extends TestBase {
    private static final int[] FAR_ABOVE = {65, 256, 1000, HIGH - 1, HIGH};
    private static final int[] FAR_BELOW = {-1, -2, -256, LOW + 1, LOW};

    public static void main(String[] args) {
        kth();
        rank();
        select();
        band();
        bandNodes();
        below();
        above();
        sums();
        often();
        mode();
        across();
        turned();
        spread();
        nearest();
        dense();
        farthest();
        fit();
        gap();
        narrow();
        lone();
        rises();
        risesWays();
        marks();
        finish("EdgeSpanTest");
    }

    private static void kth() {
        test("promise 16: k 0: the least", () -> {
            PlaneColumn x = of("255,0,9");
            due(x, x.kth(0, 3, 0), 0, 1, 1);
            due(x, x.kth(0, 1, 0), 255, 1, 0);
            due(x, x.kth(2, 3, 0), 9, 1, 2);
        });
        test("promise 16: the last k: the greatest", () -> {
            PlaneColumn x = of("255,0,9");
            due(x, x.kth(0, 3, 2), 255, 1, 0);
            PlaneColumn full = rising(192, 64);
            due(full, full.kth(0, 64, 63), 255, 1, 63);
        });
        test("promise 16: like ones count each", () -> {
            PlaneColumn x = of("5,3,5,3,5");
            long[] due = {3, 3, 5, 5, 5};
            for (int k = 0; k < 5; k++) {
                due(x.kth(0, 5, k), due[k]);
            }
            due(x.kth(0, 5, 5), MISSING);
        });
        test("promise 16: how many like it the SPAN has, the PLACE of the first of these: of the SPAN, not of the COLUMN", () -> {
            PlaneColumn x = of("5,3,5,3,5");
            due(x, x.kth(1, 4, 2), 5, 1, 2);
            due(x, x.kth(1, 4, 0), 3, 2, 1);
            due(x, x.kth(2, 5, 0), 3, 1, 3);
            due(x, x.kth(2, 5, 1), 5, 2, 2);
        });
        test("promise 16: -2: it has not so many", () -> {
            PlaneColumn x = of("5,3,5,3,5");
            due(x.kth(1, 4, 3), MISSING);
            due(x.kth(2, 2, 0), MISSING);
            for (int k : FAR_ABOVE) {
                due(x.kth(0, 5, k), MISSING);
            }
            due(of("9x64").kth(0, 64, 64), MISSING);
        });
        test("promise 16: NONE: k is below 0.", () -> {
            PlaneColumn x = of("5,3,5,3,5");
            for (int k : FAR_BELOW) {
                due(x.kth(0, 5, k), NONE);
                due(x.kth(2, 2, k), NONE);
            }
        });
    }

    private static void rank() {
        test("promise 17: i 0 .. how many there are: none ahead of PLACE 0, all ahead of the end", () -> {
            PlaneColumn x = of("9,5,9");
            due(x.rank(9, 0), 0);
            due(x.rank(9, 1), 1);
            due(x.rank(9, 2), 1);
            due(x.rank(9, 3), 2);
            due(new PlaneColumn().rank(9, 0), 0);
            due(of("9x64").rank(9, 64), 64);
        });
        test("promise 17: i 0 .. how many there are: another i is refused", () -> {
            PlaneColumn x = of("9,5,9");
            due(x.rank(9, 4), NONE);
            for (int i : FAR_ABOVE) {
                due(x.rank(9, i), NONE);
            }
            for (int i : FAR_BELOW) {
                due(x.rank(9, i), NONE);
            }
            due(new PlaneColumn().rank(9, 1), NONE);
            due(of("9x64").rank(9, 65), NONE);
        });
        test("promise 17: How many NUMBERS v: 0 and 255, and one that does not stand there", () -> {
            PlaneColumn x = of("0,255,0");
            due(x.rank(0, 3), 2);
            due(x.rank(255, 3), 1);
            due(x.rank(1, 3), 0);
        });
    }

    private static void select() {
        test("promise 18: k 0: the first", () -> {
            PlaneColumn x = of("9,5,9");
            due(x.select(9, 0), 0);
            due(x.select(5, 0), 1);
            due(x.select(9, 1), 2);
            due(of("9x64").select(9, 63), 63);
        });
        test("promise 18: -2: there are not so many", () -> {
            PlaneColumn x = of("9,5,9");
            due(x.select(9, 2), MISSING);
            due(x.select(5, 1), MISSING);
            due(x.select(0, 0), MISSING);
            due(x.select(255, 0), MISSING);
            for (int k : FAR_ABOVE) {
                due(x.select(9, k), MISSING);
            }
            due(new PlaneColumn().select(0, 0), MISSING);
            due(of("9x64").select(9, 64), MISSING);
        });
        test("promise 18: NONE: k is below 0.", () -> {
            PlaneColumn x = of("9,5,9");
            for (int k : FAR_BELOW) {
                due(x.select(9, k), NONE);
                due(x.select(8, k), NONE);
            }
        });
    }

    private static void band() {
        test("promise 19: How many NUMBERS a .. b: a and b themselves count", () -> {
            PlaneColumn x = of("4,5,6,7,8");
            due(x.band(0, 5, 5, 7), 3);
            due(x.band(0, 5, 6, 6), 1);
            due(x.band(0, 5, 9, 255), 0);
            due(x.band(0, 5, 0, 3), 0);
        });
        test("promise 19: How many NUMBERS a .. b: from 0, to 255, all", () -> {
            PlaneColumn x = of("0,255,0,255,128,127");
            due(x.band(0, 6, 0, 0), 2);
            due(x.band(0, 6, 255, 255), 2);
            due(x.band(0, 6, 0, 255), 6);
            due(x.band(0, 6, 1, 254), 2);
        });
        test("promise 19: NONE: a above b, too.", () -> {
            PlaneColumn x = of("4,5,6");
            due(x.band(0, 3, 5, 4), NONE);
            due(x.band(0, 3, 255, 0), NONE);
            due(x.band(0, 3, 1, 0), NONE);
            due(x.band(1, 1, 1, 0), NONE);
            due(x.band(0, 3, 5, 5), 1);
        });
        test("promise 19: NONE: a or b that is no NUMBER", () -> {
            PlaneColumn x = of("4,5,6");
            due(x.band(0, 3, 0, 256), NONE);
            due(x.band(0, 3, -1, 255), NONE);
            due(x.band(0, 3, -1, -1), NONE);
            due(x.band(0, 3, 256, 256), NONE);
            due(x.band(0, 3, LOW, HIGH), NONE);
        });
    }

    private static void bandNodes() {
        test("promise 19: NODES that are VISITED: that of LEVEL 0, though it has none of the band", () -> {
            PlaneColumn x = of("255");
            due(x, x.band(0, 1, 0, 0), 0, 1);
            due(x, x.band(0, 1, 0, 127), 0, 1);
        });
        test("promise 19: NODES that are VISITED: an empty SPAN has none", () -> {
            PlaneColumn x = of("255");
            due(x, x.band(0, 0, 0, 255), 0, 0);
            due(x, x.band(1, 1, 7, 9), 0, 0);
        });
        test("promise 19: from one that COVERS some of the band and some others: not from one that COVERS the band alone", () -> {
            PlaneColumn x = rising(0, 64);
            due(x, x.band(0, 64, 0, 255), 64, 1);
            due(x, x.band(0, 64, 0, 127), 64, 2);
            due(x, x.band(0, 64, 0, 63), 64, 3);
            due(x, x.band(0, 64, 0, 31), 32, 4);
            // LEVELS 0 to 2, then 0 .. 31 and 32 .. 63, of which the second goes on: 32 .. 47, .., 32.
            due(x, x.band(0, 64, 0, 32), 33, 3 + 2 + 5);
        });
        test("promise 19: those two that COVER some of the band: both, and one of them", () -> {
            PlaneColumn x = of("127,128");
            // 127 .. 128: LEVEL 0, then one NODE of each LEVEL on either side.
            due(x, x.band(0, 2, 127, 128), 2, 1 + 8 + 8);
            due(x, x.band(0, 2, 127, 127), 1, 1 + 8);
            due(x, x.band(0, 2, 128, 128), 1, 1 + 8);
            due(x, x.band(0, 2, 128, 255), 1, 2);
            due(x, x.band(0, 2, 127, 255), 2, 1 + 8 + 1);
        });
    }

    private static void below() {
        test("promise 20: The greatest NUMBER below v: v itself is not", () -> {
            PlaneColumn x = of("7,9,7");
            due(x, x.below(0, 3, 10), 9, 1);
            due(x, x.below(0, 3, 9), 7, 2);
            due(x, x.below(0, 3, 8), 7, 2);
        });
        test("promise 20: v (1 .. 256): both ends", () -> {
            PlaneColumn x = of("0,255,0");
            due(x, x.below(0, 3, 256), 255, 1);
            due(x, x.below(0, 3, 255), 0, 2);
            due(x, x.below(0, 3, 1), 0, 2);
        });
        test("promise 20: v (1 .. 256): another v is refused", () -> {
            PlaneColumn x = of("0,255,0");
            due(x.below(0, 3, 0), NONE);
            due(x.below(0, 3, 257), NONE);
            due(x.below(0, 3, -1), NONE);
            due(x.below(0, 3, LOW), NONE);
            due(x.below(0, 3, HIGH), NONE);
        });
        test("promise 20: how many like it: in the SPAN", () -> {
            PlaneColumn x = of("7,7,7,9");
            due(x, x.below(1, 3, 256), 7, 2);
            due(x, x.below(2, 4, 9), 7, 1);
        });
        test("promise 20: -2: none.", () -> {
            PlaneColumn x = of("7,9,7");
            due(x.below(0, 3, 7), MISSING);
            due(x.below(0, 3, 1), MISSING);
            due(x.below(1, 1, 256), MISSING);
            due(x.below(1, 2, 9), MISSING);
            due(new PlaneColumn().below(0, 0, 256), MISSING);
        });
    }

    private static void above() {
        test("promise 21: The least NUMBER above v: v itself is not", () -> {
            PlaneColumn x = of("7,9,7");
            due(x, x.above(0, 3, 6), 7, 2);
            due(x, x.above(0, 3, 7), 9, 1);
            due(x, x.above(0, 3, 8), 9, 1);
        });
        test("promise 21: v (-1 .. 254): both ends", () -> {
            PlaneColumn x = of("0,255,0");
            due(x, x.above(0, 3, -1), 0, 2);
            due(x, x.above(0, 3, 0), 255, 1);
            due(x, x.above(0, 3, 254), 255, 1);
        });
        test("promise 21: v (-1 .. 254): another v is refused", () -> {
            PlaneColumn x = of("0,255,0");
            due(x.above(0, 3, -2), NONE);
            due(x.above(0, 3, 255), NONE);
            due(x.above(0, 3, 256), NONE);
            due(x.above(0, 3, LOW), NONE);
            due(x.above(0, 3, HIGH), NONE);
        });
        test("promise 21: how many like it: in the SPAN", () -> {
            PlaneColumn x = of("9,9,9,7");
            due(x, x.above(1, 3, -1), 9, 2);
            due(x, x.above(2, 4, 7), 9, 1);
        });
        test("promise 21: -2: none.", () -> {
            PlaneColumn x = of("7,9,7");
            due(x.above(0, 3, 9), MISSING);
            due(x.above(0, 3, 254), MISSING);
            due(x.above(1, 1, -1), MISSING);
            due(x.above(0, 1, 7), MISSING);
            due(new PlaneColumn().above(0, 0, -1), MISSING);
        });
    }

    private static void sums() {
        test("promise 22: The sum of the k least NUMBERS; the ROW: of the k greatest: of none", () -> {
            PlaneColumn x = of("7,9,7");
            due(x, x.sums(0, 3, 0), 0, 0);
            due(x, x.sums(1, 1, 0), 0, 0);
            due(new PlaneColumn().sums(0, 0, 0), 0);
        });
        test("promise 22: The sum of the k least NUMBERS; the ROW: of the k greatest: of one, of all but one, of all", () -> {
            PlaneColumn x = of("7,200,1,9");
            due(x, x.sums(0, 4, 1), 1, 200);
            due(x, x.sums(0, 4, 3), 17, 216);
            due(x, x.sums(0, 4, 4), 217, 217);
            PlaneColumn full = of("255x64");
            due(full, full.sums(0, 64, 64), 16320, 16320);
        });
        test("promise 22: -2: it has not so many", () -> {
            PlaneColumn x = of("7,200,1,9");
            due(x.sums(0, 4, 5), MISSING);
            due(x.sums(1, 3, 3), MISSING);
            due(x.sums(1, 1, 1), MISSING);
            for (int k : FAR_ABOVE) {
                due(x.sums(0, 4, k), MISSING);
            }
            due(of("9x64").sums(0, 64, 65), MISSING);
        });
        test("promise 22: NONE: k is below 0.", () -> {
            PlaneColumn x = of("7,200,1,9");
            for (int k : FAR_BELOW) {
                due(x.sums(0, 4, k), NONE);
            }
        });
    }

    private static void often() {
        test("promise 23: m times or more: m times is enough, m less 1 is not", () -> {
            PlaneColumn x = of("5x2,6x3,7x4");
            due(x.often(0, 9, 2), 3);
            due(x.often(0, 9, 3), 2);
            due(x.often(0, 9, 4), 1);
            // All nine down to 4 .. 7 in LEVEL 6, then the seven of 6 .. 7.
            due(x, x.often(0, 9, 5), 0, 7 + 1);
        });
        test("promise 23: (m 1 .. 64): both ends", () -> {
            PlaneColumn x = of("9x64");
            due(x, x.often(0, 64, 1), 1, 9, 9, 64);
            due(x, x.often(0, 64, 64), 1, 9, 9, 64);
            due(x, x.often(0, 63, 64), 0, 0);
        });
        test("promise 23: (m 1 .. 64): another m is refused", () -> {
            PlaneColumn x = of("9x64");
            due(x.often(0, 64, 0), NONE);
            for (int m : FAR_ABOVE) {
                due(x.often(0, 64, m), NONE);
            }
            for (int m : FAR_BELOW) {
                due(x.often(0, 64, m), NONE);
            }
        });
        test("promise 23: NODES that are VISITED (all that have m NUMBERS or more of it)", () -> {
            PlaneColumn x = of("0,255,0,255,1");
            // LEVEL 0; then 0, 0, 1 down to LEVEL 7 and 0, 0; 255, 255.
            due(x, x.often(0, 5, 2), 2, 1 + 8 + 8, 0, 2, 255, 2);
            due(x, x.often(0, 5, 3), 0, 1 + 7);
            due(x, x.often(0, 5, 1), 3, 1 + 9 + 8, 0, 2, 1, 1, 255, 2);
            due(x, x.often(0, 5, 5), 0, 1);
            due(x, x.often(0, 5, 6), 0, 0);
        });
        test("promise 23: the first 16 of these: 15, 16, 17 and 64 of them", () -> {
            PlaneColumn x = rising(100, 64);
            int[] many = {0, 1, 15, 16, 17, 64};
            for (int n : many) {
                due(x.often(0, n, 1), n);
                due(x.count(2), 1 + 2 * Math.min(n, 16));
                for (int i = 0; i < Math.min(n, 16); i++) {
                    due(x.row(1 + 2 * i), 100 + i);
                    due(x.row(2 + 2 * i), 1);
                }
            }
        });
        test("promise 23: the first 16 of these, by NUMBERS: not by PLACES", () -> {
            PlaneColumn x = of("9,255,0,9,0,255");
            x.often(0, 6, 2);
            due(x.row(1), 0);
            due(x.row(3), 9);
            due(x.row(5), 255);
        });
    }

    private static void mode() {
        test("promise 24: of equal ones the least", () -> {
            PlaneColumn x = of("255,9,0,9,255,0");
            due(x, x.mode(0, 6), 0, 2);
            due(x, x.mode(0, 2), 9, 1);
            due(x, x.mode(0, 5), 9, 2);
            due(x, x.mode(0, 4), 9, 2);
        });
        test("promise 24: one NUMBER, 64 like ones", () -> {
            PlaneColumn x = of("255");
            due(x, x.mode(0, 1), 255, 1);
            columnOf(x, "0x64");
            due(x, x.mode(0, 64), 0, 64);
            columnOf(x, "0x31,255x33");
            due(x, x.mode(0, 64), 255, 33);
            due(x, x.mode(0, 62), 0, 31);
        });
        test("promise 24: -2: an empty one.", () -> {
            PlaneColumn x = of("255,0");
            due(x.mode(0, 0), MISSING);
            due(x.mode(1, 1), MISSING);
            due(x.mode(2, 2), MISSING);
            due(new PlaneColumn().mode(0, 0), MISSING);
        });
    }

    private static void across() {
        test("promise 25: The k-th least of what the NUMBERS come to: k 0 and the last, like ones count each", () -> {
            PlaneColumn x = of("0,255,0,240");
            due(x, x.across(0, 4, 255, 0), 0, 255);
            due(x, x.across(0, 4, 255, 1), 15, 240);
            due(x, x.across(0, 4, 255, 2), 255, 0);
            due(x, x.across(0, 4, 255, 3), 255, 0);
            due(x, x.across(0, 4, 0, 0), 0, 0);
            due(x, x.across(0, 4, 0, 3), 255, 255);
        });
        test("promise 25: -2: it has not so many", () -> {
            PlaneColumn x = of("0,255,0,240");
            due(x.across(0, 4, 0, 4), MISSING);
            due(x.across(1, 2, 9, 1), MISSING);
            due(x.across(2, 2, 9, 0), MISSING);
            for (int k : FAR_ABOVE) {
                due(x.across(0, 4, 7, k), MISSING);
            }
        });
        test("promise 25: NONE: x is no NUMBER", () -> {
            PlaneColumn x = of("0,255,0,240");
            due(x.across(0, 4, 256, 0), NONE);
            due(x.across(0, 4, -1, 0), NONE);
            due(x.across(0, 4, HIGH, 0), NONE);
            due(x.across(0, 4, LOW, 0), NONE);
        });
        test("promise 25: NONE: k is below 0.", () -> {
            PlaneColumn x = of("0,255,0,240");
            for (int k : FAR_BELOW) {
                due(x.across(0, 4, 0, k), NONE);
            }
        });
    }

    private static void turned() {
        test("promise 26: How many pairs: of none and of one NUMBER none", () -> {
            PlaneColumn x = of("9,5");
            due(x, x.turned(0, 0), 0, 0);
            due(x, x.turned(0, 1), 0, 0);
            due(x, x.turned(2, 2), 0, 0);
            due(x, x.turned(0, 2), 1, 0);
        });
        test("promise 26: How many pairs: of 64 all, none, all like", () -> {
            PlaneColumn x = rising(0, 64);
            due(x, x.turned(0, 64), 0, 0);
            x.reverses(0, 64);
            due(x, x.turned(0, 64), 2016, 0);
            columnOf(x, "0x64");
            due(x, x.turned(0, 64), 0, 2016);
        });
        test("promise 26: the greater NUMBER first: 255 ahead of 0", () -> {
            PlaneColumn x = of("255,0,255");
            due(x, x.turned(0, 3), 1, 1);
        });
    }

    private static void spread() {
        test("promise 27: by their p highest bits (p 1 .. 4): both ends of each", () -> {
            PlaneColumn x = of("0,255,127,128");
            due(x, x.spread(0, 4, 1), 2, 2, 2);
            due(x, x.spread(0, 4, 2), 4, 1, 1, 1, 1);
            due(x, x.spread(0, 4, 3), 4, 1, 0, 0, 1, 1, 0, 0, 1);
            due(x, x.spread(0, 4, 4), 4, 1, 0, 0, 0, 0, 0, 0, 1, 1, 0, 0, 0, 0, 0, 0, 1);
        });
        test("promise 27: how many of 2 to the p are not empty: none, one, all", () -> {
            PlaneColumn x = new PlaneColumn();
            due(x, x.spread(0, 0, 1), 0, 0, 0);
            due(x, x.spread(0, 0, 4), 0, new long[16]);
            for (int i = 0; i < 16; i++) {
                x.adds(16 * i);
                due(x.spread(0, i + 1, 4), i + 1);
                due(x.row(i), 1);
                due(x.count(2), 16);
            }
        });
        test("promise 27: NONE: another p.", () -> {
            PlaneColumn x = of("0,255,127,128");
            for (int p : new int[] {0, 5, -1, 8, 31, 32, 33, LOW, HIGH}) {
                due(x.spread(0, 4, p), NONE);
            }
        });
    }

    private static void nearest() {
        test("promise 28: at unlike PLACES: like ones come to 0, one alone is no pair", () -> {
            PlaneColumn x = of("9,9,200");
            due(x, x.nearest(0, 2), 0, 9, 9);
            due(x, x.nearest(0, 3), 0, 9, 9);
            due(x, x.nearest(1, 3), 9 ^ 200, 9, 200);
        });
        test("promise 28: both, the lesser first", () -> {
            PlaneColumn x = of("255,0");
            due(x, x.nearest(0, 2), 255, 0, 255);
            x.swaps(0, 1);
            due(x, x.nearest(0, 2), 255, 0, 255);
        });
        test("promise 28: of several pairs the one with the lesser of both", () -> {
            PlaneColumn x = of("255,254,129,128,1,0");
            due(x, x.nearest(0, 6), 1, 0, 1);
            due(x, x.nearest(0, 5), 1, 128, 129);
            due(x, x.nearest(0, 3), 1, 254, 255);
            columnOf(x, "7x2,5x2");
            due(x, x.nearest(0, 4), 0, 5, 5);
        });
        test("promise 28: the least by exclusive or is not the least step", () -> {
            PlaneColumn x = of("127,128,64");
            due(x, x.nearest(0, 3), 63, 64, 127);
        });
        test("promise 28: of several pairs the lesser one: beside a search of all pairs", () -> {
            int seed = 7;
            for (int round = 0; round < 60; round++) {
                int[] numbers = new int[2 + round % 7];
                for (int i = 0; i < numbers.length; i++) {
                    seed = seed * 1103515245 + 12345;
                    numbers[i] = seed >>> 16 & (round % 2 == 0 ? 255 : 15);
                }
                dueNearest(numbers);
            }
        });
        test("promise 28: -2: it has fewer than two.", () -> {
            PlaneColumn x = of("9,9");
            due(x.nearest(0, 1), MISSING);
            due(x.nearest(1, 2), MISSING);
            due(x.nearest(1, 1), MISSING);
            due(new PlaneColumn().nearest(0, 0), MISSING);
        });
    }

    private static void dueNearest(int[] numbers) {
        int best = HIGH;
        int lesser = HIGH;
        int greater = HIGH;
        for (int i = 0; i < numbers.length; i++) {
            for (int k = 0; k < i; k++) {
                int apart = numbers[i] ^ numbers[k];
                int low = Math.min(numbers[i], numbers[k]);
                int high = Math.max(numbers[i], numbers[k]);
                if (apart < best || apart == best && (low < lesser || low == lesser && high < greater)) {
                    best = apart;
                    lesser = low;
                    greater = high;
                }
            }
        }
        PlaneColumn x = with(numbers);
        due(x, x.nearest(0, numbers.length), best, lesser, greater);
    }

    private static void dense() {
        test("promise 29: w at most above the least: w itself is, w and 1 is not", () -> {
            PlaneColumn x = of("10,15,20");
            due(x, x.dense(0, 3, 5), 2, 10);
            due(x, x.dense(0, 3, 4), 1, 10);
            due(x, x.dense(0, 3, 9), 2, 10);
            due(x, x.dense(0, 3, 10), 3, 10);
        });
        test("promise 29: (w 0 .. 255): both ends", () -> {
            PlaneColumn x = of("0,255,9,9");
            due(x, x.dense(0, 4, 0), 2, 9);
            due(x, x.dense(0, 4, 255), 4, 0);
            due(x, x.dense(0, 4, 254), 3, 0);
        });
        test("promise 29: the least of these, of several the lesser", () -> {
            PlaneColumn x = of("200,201,100,101,50");
            due(x, x.dense(0, 5, 1), 2, 100);
            due(x, x.dense(0, 5, 0), 1, 50);
            due(x, x.dense(0, 2, 1), 2, 200);
        });
        test("promise 29: (NONE of an empty one)", () -> {
            PlaneColumn x = of("7,7");
            due(x, x.dense(1, 1, 0), 0, NONE);
            due(x, x.dense(2, 2, 255), 0, NONE);
            due(x, x.dense(0, 1, 0), 1, 7);
        });
        test("promise 29: NONE: another w.", () -> {
            PlaneColumn x = of("7,7");
            x.dense(0, 2, 0);
            for (int w : new int[] {256, -1, 257, LOW, HIGH}) {
                due(x, x.dense(0, 2, w), NONE, 7);
                due(x, x.dense(1, 1, w), NONE, 7);
            }
        });
    }

    private static void farthest() {
        test("promise 30: The NUMBER that comes to the most: x 0 and x 255", () -> {
            PlaneColumn x = of("0,255,0");
            due(x, x.farthest(0, 3, 0), 255, 255, 1);
            due(x, x.farthest(0, 3, 255), 255, 0, 2);
            due(x, x.farthest(0, 1, 0), 0, 0, 1);
            due(x, x.farthest(1, 2, 255), 0, 255, 1);
        });
        test("promise 30: how many like it: in the SPAN", () -> {
            PlaneColumn x = of("9x5");
            due(x, x.farthest(1, 4, 6), 15, 9, 3);
        });
        test("promise 30: -2: an empty one", () -> {
            PlaneColumn x = of("9");
            due(x.farthest(0, 0, 0), MISSING);
            due(x.farthest(1, 1, 255), MISSING);
            due(new PlaneColumn().farthest(0, 0, 0), MISSING);
        });
        test("promise 30: NONE: x is no NUMBER.", () -> {
            PlaneColumn x = of("9");
            for (int v : new int[] {256, -1, LOW, HIGH}) {
                due(x.farthest(0, 1, v), NONE);
                due(x.farthest(1, 1, v), NONE);
            }
        });
    }

    private static void fit() {
        test("promise 31: together no more than sum: just so many, and one too few for it", () -> {
            PlaneColumn x = of("5,3,4");
            due(x, x.fit(0, 3, 2), 0, 0);
            due(x, x.fit(0, 3, 3), 1, 3);
            due(x, x.fit(0, 3, 6), 1, 3);
            due(x, x.fit(0, 3, 7), 2, 7);
            due(x, x.fit(0, 3, 11), 2, 7);
            due(x, x.fit(0, 3, 12), 3, 12);
            due(x, x.fit(0, 3, 13), 3, 12);
        });
        test("promise 31: sum 0: NUMBERS 0 alone", () -> {
            PlaneColumn x = of("0,1,0");
            due(x, x.fit(0, 3, 0), 2, 0);
            due(x, x.fit(1, 2, 0), 0, 0);
            columnOf(x, "0x64");
            due(x, x.fit(0, 64, 0), 64, 0);
        });
        test("promise 31: the greatest sum there is: all of them", () -> {
            PlaneColumn x = of("255x64");
            due(x, x.fit(0, 64, HIGH), 64, 16320);
            due(x, x.fit(0, 64, 16320), 64, 16320);
            due(x, x.fit(0, 64, 16319), 63, 16065);
        });
        test("promise 31: of an empty SPAN none", () -> {
            PlaneColumn x = of("0,1,0");
            due(x, x.fit(2, 2, 0), 0, 0);
            due(x, x.fit(2, 2, HIGH), 0, 0);
        });
        test("promise 31: NONE: sum is below 0.", () -> {
            PlaneColumn x = of("0,1,0");
            for (int sum : FAR_BELOW) {
                due(x.fit(0, 3, sum), NONE);
                due(x.fit(2, 2, sum), NONE);
            }
        });
    }

    private static void gap() {
        test("promise 32: The greatest step: like ones have step 0", () -> {
            PlaneColumn x = of("9x64");
            due(x, x.gap(0, 64), 0, 9, 9);
            due(x, x.gap(0, 2), 0, 9, 9);
        });
        test("promise 32: The greatest step: 0 to 255", () -> {
            PlaneColumn x = of("255,0");
            due(x, x.gap(0, 2), 255, 0, 255);
            x.adds(100);
            due(x, x.gap(0, 3), 155, 100, 255);
        });
        test("promise 32: of several the least", () -> {
            PlaneColumn x = of("30,20,10,5");
            due(x, x.gap(0, 3), 10, 10, 20);
            due(x, x.gap(0, 4), 10, 10, 20);
            due(x, x.gap(0, 2), 10, 20, 30);
        });
        test("promise 32: -2: it has fewer than two.", () -> {
            PlaneColumn x = of("9,9");
            due(x.gap(0, 1), MISSING);
            due(x.gap(1, 2), MISSING);
            due(x.gap(1, 1), MISSING);
            due(new PlaneColumn().gap(0, 0), MISSING);
        });
    }

    private static void narrow() {
        test("promise 33: The shortest SPAN that has m NUMBERS v (m 1 .. 64): one, all, 64", () -> {
            PlaneColumn x = of("5,9,5,5");
            due(x, x.narrow(5, 1), 1, 0, 1, 3);
            due(x, x.narrow(5, 2), 2, 2, 4, 1);
            due(x, x.narrow(5, 3), 4, 0, 4, 1);
            due(x, x.narrow(9, 1), 1, 1, 2, 1);
            columnOf(x, "9x64");
            due(x, x.narrow(9, 64), 64, 0, 64, 1);
            due(x, x.narrow(9, 63), 63, 0, 63, 2);
            due(x, x.narrow(9, 1), 1, 0, 1, 64);
        });
        test("promise 33: its l, r, of several the first, and how many such SPANS there are", () -> {
            PlaneColumn x = of("5,1,5,5,2,5,5,3,5");
            due(x, x.narrow(5, 2), 2, 2, 4, 2);
            due(x, x.narrow(5, 3), 4, 0, 4, 4);
            due(x, x.narrow(5, 4), 5, 2, 7, 1);
        });
        test("promise 33: NUMBERS 0 and 255", () -> {
            PlaneColumn x = of("255,0,0,255");
            due(x, x.narrow(0, 2), 2, 1, 3, 1);
            due(x, x.narrow(255, 2), 4, 0, 4, 1);
        });
        test("promise 33: -2: there are not so many", () -> {
            PlaneColumn x = of("5,9,5,5");
            due(x.narrow(5, 4), MISSING);
            due(x.narrow(9, 2), MISSING);
            due(x.narrow(0, 1), MISSING);
            due(x.narrow(5, 64), MISSING);
            due(new PlaneColumn().narrow(0, 1), MISSING);
            due(of("9x63").narrow(9, 64), MISSING);
        });
        test("promise 33: NONE: another m.", () -> {
            PlaneColumn x = of("9x64");
            due(x.narrow(9, 0), NONE);
            for (int m : FAR_ABOVE) {
                due(x.narrow(9, m), NONE);
            }
            for (int m : FAR_BELOW) {
                due(x.narrow(9, m), NONE);
            }
        });
    }

    private static void lone() {
        test("promise 34: stand in it just once: not twice, in the SPAN and not in the COLUMN", () -> {
            PlaneColumn x = of("9,5,9,7,5");
            due(x, x.lone(0, 5), 1, 7, 7);
            due(x, x.lone(0, 2), 2, 5, 9);
            due(x, x.lone(1, 4), 3, 5, 9);
        });
        test("promise 34: the least, the greatest of them: 0 and 255", () -> {
            PlaneColumn x = of("255,0,9,9");
            due(x, x.lone(0, 4), 2, 0, 255);
            due(x, x.lone(1, 4), 1, 0, 0);
            due(x, x.lone(0, 1), 1, 255, 255);
        });
        test("promise 34: (NONE each without)", () -> {
            PlaneColumn x = of("9,9,0,0");
            due(x, x.lone(0, 4), 0, NONE, NONE);
            due(x, x.lone(2, 2), 0, NONE, NONE);
            due(new PlaneColumn().lone(0, 0), 0);
        });
        test("promise 34: 64 that stand once", () -> {
            PlaneColumn x = rising(192, 64);
            due(x, x.lone(0, 64), 64, 192, 255);
        });
    }

    private static void rises() {
        test("promise 35: each NUMBER is greater than the one taken ahead of it: like ones are not", () -> {
            PlaneColumn x = of("5,5,5");
            due(x, x.rises(0, 3), 1, 5, 3);
            columnOf(x, "5,5,6,6");
            due(x, x.rises(0, 4), 2, 6, 4);
        });
        test("promise 35: one behind another, not all need be taken: by one, by many", () -> {
            PlaneColumn x = of("9,0,255,1,2");
            due(x, x.rises(0, 5), 3, 2, 1);
            due(x, x.rises(0, 3), 2, 255, 2);
            due(x, x.rises(0, 1), 1, 9, 1);
        });
        test("promise 35: all of 64, one of 64", () -> {
            PlaneColumn x = rising(192, 64);
            due(x, x.rises(0, 64), 64, 255, 1);
            x.reverses(0, 64);
            due(x, x.rises(0, 64), 1, 192, 64);
        });
        test("promise 35: the least that the last of so many can be", () -> {
            PlaneColumn x = of("10,20,5,11,3,4");
            due(x, x.rises(0, 6), 2, 4, 4);
            due(x, x.rises(0, 4), 2, 11, 3);
            due(x, x.rises(0, 3), 2, 20, 1);
            due(x, x.rises(0, 2), 2, 20, 1);
        });
        test("promise 35: in how many ways so many can be taken: not in how many fewer can", () -> {
            PlaneColumn x = of("9,5,6,10");
            due(x, x.rises(0, 4), 3, 10, 1);
            columnOf(x, "9,8,7,5,5,6,10,10");
            due(x, x.rises(0, 8), 3, 10, 2 * 2);
        });
        test("promise 35: (NONE of an empty SPAN), 0 of an empty SPAN", () -> {
            PlaneColumn x = of("5,6");
            due(x, x.rises(0, 0), 0, NONE, 0);
            due(x, x.rises(1, 1), 0, NONE, 0);
            due(x, x.rises(2, 2), 0, NONE, 0);
            PlaneColumn none = new PlaneColumn();
            due(none, none.rises(0, 0), 0, NONE, 0);
        });
        test("promise 35: of a SPAN: what stands ahead of l and behind r is not taken", () -> {
            PlaneColumn x = of("0,5,4,6,255");
            due(x, x.rises(1, 4), 2, 6, 2);
            due(x, x.rises(0, 5), 4, 255, 2);
        });
    }

    private static void risesWays() {
        test("promise 35: 1000000000 for more: just so many", () -> {
            // Nine times five like ones and two like ones: 10 to the 9.
            PlaneColumn x = steps(5, 2, 9);
            due(x, x.rises(0, 63), 18, 17, 1000000000);
        });
        test("promise 35: 1000000000 for more: fewer are told as they are", () -> {
            PlaneColumn x = steps(3, 3, 9);
            due(x, x.rises(0, 54), 18, 17, 387420489);
            PlaneColumn y = steps(5, 2, 9);
            y.cuts(0);
            due(y, y.rises(0, 62), 18, 17, 800000000);
        });
        test("promise 35: 1000000000 for more: one step more, many more", () -> {
            PlaneColumn x = steps(5, 2, 9);
            x.adds(17);
            due(x, x.rises(0, 64), 18, 17, 1000000000);
            PlaneColumn three = steps(3, 3, 10);
            due(three, three.rises(0, 60), 20, 19, 1000000000);
            PlaneColumn four = steps(4, 4, 8);
            due(four, four.rises(0, 64), 16, 15, 1000000000);
            PlaneColumn two = steps(2, 2, 16);
            due(two, two.rises(0, 64), 32, 31, 1000000000);
            // 2 to the 29 and 2 to the 30.
            due(two, two.rises(0, 58), 29, 28, 536870912);
            due(two, two.rises(0, 60), 30, 29, 1000000000);
        });
    }

    /** So many like ones, then so many of the next NUMBER, and that so many times. */
    private static PlaneColumn steps(int some, int others, int times) {
        PlaneColumn x = new PlaneColumn();
        for (int i = 0; i < times; i++) {
            for (int k = 0; k < some + others; k++) {
                x.adds(k < some ? 2 * i : 2 * i + 1);
            }
        }
        return x;
    }

    private static void marks() {
        test("promise 36: How often v stands in a SPAN: not at all, of NUMBERS 0 and 255", () -> {
            PlaneColumn x = of("0,255,0");
            due(x, x.marks(0, 3, 0), 2, 0, 2);
            due(x, x.marks(0, 3, 255), 1, 1);
            due(x, x.marks(0, 3, 1), 0);
            due(x, x.marks(1, 2, 0), 0);
            due(x, x.marks(1, 1, 255), 0);
        });
        test("promise 36: PLACES of the first 32 of them: 31, 32, 33 and 64", () -> {
            PlaneColumn x = of("9x64");
            for (int n : new int[] {31, 32, 33, 64}) {
                due(x.marks(0, n, 9), n);
                due(x.count(2), Math.min(n, 32));
                due(x.row(0), 0);
                due(x.row(Math.min(n, 32) - 1), Math.min(n, 32) - 1);
                dueThrows(x, Math.min(n, 32));
            }
            due(x.marks(20, 64, 9), 44);
            due(x.row(0), 20);
            due(x.row(31), 51);
        });
        test("promise 36: NONE: v is no NUMBER, too.", () -> {
            PlaneColumn x = of("0,255,0");
            x.marks(0, 3, 255);
            for (int v : new int[] {256, -1, 511, LOW, HIGH}) {
                due(x, x.marks(0, 3, v), NONE, 1);
                due(x, x.marks(1, 1, v), NONE, 1);
            }
        });
    }
}
