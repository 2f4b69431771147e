/** Each sentence of promises 37 to 42 that names a boundary case. What binds every SPAN stands in EdgeTermsTest. */
public final class EdgeTwoSpansTest extends TestBase {
    public static void main(String[] args) {
        common();
        lacking();
        both();
        same();
        count();
        row();
        finish("EdgeTwoSpansTest");
    }

    /** NUMBERS 100, 101 .. twice: 32 of them at PLACES 0 .. 31 and again behind. */
    private static PlaneColumn twice() {
        PlaneColumn x = rising(100, 32);
        for (int i = 0; i < 32; i++) {
            x.adds(131 - i);
        }
        return x;
    }

    private static void common() {
        test("promise 37: How many unlike NUMBERS both SPANS have: none, one, all, like ones once", () -> {
            PlaneColumn x = of("9,9,0,255,9");
            // 9 and 0 have the four highest bits in common.
            due(x, x.common(0, 1, 2, 4), 0, 5);
            due(x, x.common(0, 2, 4, 5), 1, 9, 9, 2, 1);
            due(x, x.common(0, 5, 0, 5), 3, 1 + 8 + 8 + 4, 0, 1, 1, 9, 3, 3, 255, 1, 1);
        });
        test("promise 37: SPANS that lie in one another, and the same one", () -> {
            PlaneColumn x = of("9,9,0");
            due(x, x.common(0, 3, 1, 2), 1, 9, 9, 2, 1);
            due(x, x.common(1, 2, 1, 2), 1, 9, 9, 1, 1);
        });
        test("promise 37: an empty SPAN has nothing in common", () -> {
            PlaneColumn x = of("9,9,0");
            due(x, x.common(0, 3, 3, 3), 0, 0);
            due(x, x.common(0, 0, 0, 3), 0, 0);
            due(x, x.common(1, 1, 2, 2), 0, 0);
            PlaneColumn none = new PlaneColumn();
            due(none, none.common(0, 0, 0, 0), 0, 0);
        });
        test("promise 37: NODES that are VISITED (all in which both have NUMBERS)", () -> {
            PlaneColumn x = of("0,1,128,255");
            due(x, x.common(0, 1, 1, 2), 0, 8);
            due(x, x.common(0, 2, 2, 4), 0, 1);
            due(x, x.common(2, 3, 3, 4), 0, 2);
        });
        test("promise 37: the first 16 of these: 15, 16, 17 and 32 of them", () -> {
            PlaneColumn x = twice();
            for (int n : new int[] {0, 1, 15, 16, 17, 32}) {
                due(x.common(0, n, 32, 64), n);
                due(x.count(2), 1 + 3 * Math.min(n, 16));
                for (int i = 0; i < Math.min(n, 16); i++) {
                    due(x.row(1 + 3 * i), 100 + i);
                    due(x.row(2 + 3 * i), 1);
                    due(x.row(3 + 3 * i), 1);
                }
                dueThrows(x, 1 + 3 * Math.min(n, 16));
            }
        });
        test("promise 37: how often the one, the other has it", () -> {
            PlaneColumn x = of("255x3,0x2,255x1,0x5");
            due(x, x.common(0, 5, 5, 11), 2, 17, 0, 2, 5, 255, 3, 1);
            due(x, x.common(5, 11, 0, 5), 2, 17, 0, 5, 2, 255, 1, 3);
        });
    }

    private static void lacking() {
        test("promise 38: How many unlike NUMBERS the first SPAN has and the other one has not: none, one, all", () -> {
            PlaneColumn x = of("9,9,0,255,9");
            due(x, x.lacking(0, 5, 0, 5), 0);
            due(x, x.lacking(0, 2, 4, 5), 0);
            due(x, x.lacking(0, 3, 4, 5), 1, 0, 1);
            due(x, x.lacking(2, 4, 0, 2), 2, 0, 1, 255, 1);
        });
        test("promise 38: one that the other has once is not lacking, though the first has it oftener", () -> {
            PlaneColumn x = of("7x5,7");
            due(x, x.lacking(0, 5, 5, 6), 0);
        });
        test("promise 38: an empty SPAN: as the first one, as the other one", () -> {
            PlaneColumn x = of("9,9,0");
            due(x, x.lacking(1, 1, 0, 3), 0);
            due(x, x.lacking(0, 3, 1, 1), 2, 0, 1, 9, 2);
            due(x, x.lacking(1, 1, 2, 2), 0);
            PlaneColumn none = new PlaneColumn();
            due(none, none.lacking(0, 0, 0, 0), 0);
        });
        test("promise 38: the first 16 of these: 15, 16, 17 and 64 of them", () -> {
            PlaneColumn x = rising(192, 64);
            for (int n : new int[] {0, 1, 15, 16, 17, 64}) {
                due(x.lacking(64 - n, 64, 0, 0), n);
                due(x.count(2), 2 * Math.min(n, 16));
                for (int i = 0; i < Math.min(n, 16); i++) {
                    due(x.row(2 * i), 256 - n + i);
                    due(x.row(1 + 2 * i), 1);
                }
                dueThrows(x, 2 * Math.min(n, 16));
            }
        });
    }

    private static void both() {
        test("promise 39: The k-th least NUMBER of both SPANS together: the first, the last", () -> {
            PlaneColumn x = of("255,0,9,9");
            due(x, x.both(0, 2, 2, 4, 0), 0, 1, 0);
            due(x, x.both(0, 2, 2, 4, 1), 9, 0, 2);
            due(x, x.both(0, 2, 2, 4, 2), 9, 0, 2);
            due(x, x.both(0, 2, 2, 4, 3), 255, 1, 0);
        });
        test("promise 39: (PLACES that are in both count twice)", () -> {
            PlaneColumn x = of("5,6");
            long[] due = {5, 5, 6, 6};
            for (int k = 0; k < 4; k++) {
                due(x, x.both(0, 2, 0, 2, k), due[k], 1, 1);
            }
            due(x.both(0, 2, 0, 2, 4), MISSING);
            PlaneColumn full = of("9x64");
            due(full, full.both(0, 64, 0, 64, 127), 9, 64, 64);
            due(full, full.both(0, 64, 0, 64, 128), MISSING, 64, 64);
        });
        test("promise 39: one of the SPANS is empty", () -> {
            PlaneColumn x = of("5,6");
            due(x, x.both(0, 0, 0, 2, 1), 6, 0, 1);
            due(x, x.both(0, 2, 1, 1, 0), 5, 1, 0);
            due(x, x.both(0, 2, 1, 1, 2), MISSING, 1, 0);
        });
        test("promise 39: -2: they have not so many", () -> {
            PlaneColumn x = of("5,6");
            due(x.both(0, 1, 1, 2, 2), MISSING);
            due(x.both(0, 1, 1, 2, 128), MISSING);
            due(x.both(0, 1, 1, 2, HIGH), MISSING);
            due(x.both(1, 1, 2, 2, 0), MISSING);
            due(new PlaneColumn().both(0, 0, 0, 0, 0), MISSING);
        });
        test("promise 39: NONE: k is below 0.", () -> {
            PlaneColumn x = of("5,6");
            due(x.both(0, 1, 1, 2, -1), NONE);
            due(x.both(0, 1, 1, 2, LOW), NONE);
            due(x.both(1, 1, 1, 1, -1), NONE);
        });
    }

    private static void same() {
        test("promise 40: the same NUMBERS, each as often: 1: in another order, in one another, the same one", () -> {
            PlaneColumn x = of("255,0,9,0,9,255");
            due(x, x.same(0, 3, 3, 6), 1, NONE, 0, 0);
            due(x, x.same(0, 6, 0, 6), 1, NONE, 0, 0);
            due(x, x.same(1, 3, 2, 4), 1, NONE, 0, 0);
        });
        test("promise 40: each as often, else 0", () -> {
            PlaneColumn x = of("9,9,0,9,0,0");
            due(x, x.same(0, 3, 3, 6), 0, 0, 1, 1);
            due(x, x.same(0, 1, 0, 2), 0, 9, 0, 1);
            due(x, x.same(0, 2, 0, 1), 0, 9, 1, 0);
        });
        test("promise 40: two empty SPANS are the same", () -> {
            PlaneColumn x = of("9,9,0");
            due(x, x.same(0, 0, 3, 3), 1, NONE, 0, 0);
            PlaneColumn none = new PlaneColumn();
            due(none, none.same(0, 0, 0, 0), 1, NONE, 0, 0);
        });
        test("promise 40: an empty one and another one", () -> {
            PlaneColumn x = of("9,9,0");
            due(x, x.same(1, 1, 0, 3), 0, 0, 0, 3);
            due(x, x.same(0, 2, 1, 1), 0, 9, 2, 0);
        });
        test("promise 40: the least NUMBER that they have not equally often (NONE): 0 and 255", () -> {
            PlaneColumn x = of("0,255,0,9,255,255");
            due(x, x.same(0, 2, 1, 3), 1, NONE, 0, 0);
            due(x, x.same(0, 2, 0, 3), 0, 0, 0, 1);
            due(x, x.same(4, 5, 4, 6), 0, 255, 0, 1);
            due(x, x.same(3, 5, 4, 6), 0, 9, 1, 1);
        });
        test("promise 40: how many NUMBERS of the first have no partner, of the other in the first: all of 32", () -> {
            PlaneColumn x = of("1x32,2x32");
            due(x, x.same(0, 32, 32, 64), 0, 1, 32, 32);
            due(x, x.same(0, 64, 0, 0), 0, 1, 64, 0);
            due(x, x.same(0, 0, 0, 64), 0, 1, 0, 64);
        });
    }

    private static void count() {
        test("promise 41: What 0: NUMBERS: none to 64", () -> {
            PlaneColumn x = new PlaneColumn();
            for (int n = 0; n < 64; n++) {
                due(x.count(0), n);
                x.adds(n);
            }
            due(x.count(0), 64);
        });
        test("promise 41: 1: signs of THE TEXT: none to 100", () -> {
            PlaneColumn x = new PlaneColumn();
            for (int n = 0; n < 25; n++) {
                due(x.count(1), 4 * n);
                x.sign(0);
            }
            due(x.count(1), 100);
        });
        test("promise 41: 2: numbers of the ROW: none to 49", () -> {
            PlaneColumn x = twice();
            due(x.count(2), 0);
            x.mode(0, 1);
            due(x.count(2), 1);
            x.common(0, 32, 32, 64);
            due(x.count(2), 49);
            x.marks(0, 1, 0);
            due(x.count(2), 0);
        });
        test("promise 41: 3: unlike NUMBERS: none, one, 64", () -> {
            PlaneColumn x = new PlaneColumn();
            due(x.count(3), 0);
            columnOf(x, "0x64");
            due(x.count(3), 1);
            columnOf(x, "255,0,255,0,7");
            due(x.count(3), 3);
            due(rising(192, 64).count(3), 64);
        });
        test("promise 41: 4: all together: 0, the most there can be", () -> {
            PlaneColumn x = of("0x64");
            due(x.count(4), 0);
            columnOf(x, "255x64");
            due(x.count(4), 64 * 255);
            columnOf(x, "");
            due(x.count(4), 0);
        });
        test("promise 41: 5: BITS that are 1 in all LEVELS: 0, the most there can be", () -> {
            PlaneColumn x = of("0x64");
            due(x.count(5), 0);
            columnOf(x, "255x64");
            due(x.count(5), 64 * 8);
            columnOf(x, "128,1,7");
            due(x.count(5), 1 + 1 + 3);
        });
        test("promise 41: NONE for another what.", () -> {
            PlaneColumn x = of("1,2");
            for (int what : new int[] {6, -1, 7, 256, LOW, HIGH}) {
                due(x.count(what), NONE);
            }
        });
    }

    private static void row() {
        test("promise 42: Number i of the ROW: the first and the last of the longest one", () -> {
            PlaneColumn x = twice();
            x.common(0, 32, 32, 64);
            due(x.row(1), 100);
            due(x.row(46), 115);
            due(x.row(48), 1);
        });
        test("promise 42: Number i of the ROW: a long, all 64 BITS", () -> {
            PlaneColumn x = of("0x63,255");
            x.level(0);
            due(x.row(0), Long.MIN_VALUE);
            x.reverses(0, 64);
            x.level(0);
            due(x.row(0), 1);
        });
        test("promise 42: NoSuchElementException: none such: behind the last one", () -> {
            PlaneColumn x = of("1,2");
            x.level(0);
            due(x.row(1), 1);
            dueThrows(x, 2);
            dueThrows(x, 63);
            dueThrows(x, 64);
            dueThrows(x, HIGH);
        });
        test("promise 42: NoSuchElementException: none such: below 0", () -> {
            PlaneColumn x = of("1,2");
            x.level(0);
            dueThrows(x, -1);
            dueThrows(x, LOW);
        });
        test("promise 42: NoSuchElementException: none such: an empty ROW, at first and behind a call that tells none", () -> {
            PlaneColumn x = of("1,2");
            dueThrows(x, 0);
            dueThrows(x, -1);
            x.runs();
            x.lacking(0, 2, 0, 2);
            dueThrows(x, 0);
        });
        test("promise 42: it throws as often as it is asked", () -> {
            PlaneColumn x = of("1,2");
            x.mode(0, 2);
            dueThrows(x, 1);
            dueThrows(x, 1);
            due(x.row(0), 1);
        });
    }
}
