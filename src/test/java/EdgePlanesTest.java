/** Each sentence of promises 11 to 15 that names a boundary case. */
public final class EdgePlanesTest extends TestBase {
    private static final long[] DOWNWARD = {7, 6, 5, 4, 3, 2, 1, 0};

    public static void main(String[] args) {
        level();
        spot();
        from();
        runs();
        thrift();
        thriftOfSeveral();
        thriftOfAnotherColumn();
        finish("EdgePlanesTest");
    }

    private static void level() {
        test("promise 11: ZEROS of a LEVEL 0 .. 7: the first and the last", () -> {
            PlaneColumn x = of("128,1,129");
            due(x, x.level(0), 1, 1 + 4, 3);
            // 1, then 128 and 129.
            due(x, x.level(7), 1, 1 + 4, 3);
        });
        test("promise 11: its BITS (bit i: of SPOT i): SPOT 0 and SPOT 63", () -> {
            PlaneColumn x = of("128,0x62,128");
            due(x, x.level(0), 62, Long.MIN_VALUE + 1, 3);
            PlaneColumn y = of("0x63,255");
            due(y, y.level(0), 63, Long.MIN_VALUE, 2);
            PlaneColumn z = of("255x64");
            due(z, z.level(0), 0, -1, 1);
        });
        test("promise 11: its BITS: none of a NUMBER that went", () -> {
            PlaneColumn x = of("255x64");
            for (int has = 63; has >= 0; has--) {
                x.cuts(has);
                due(x, x.level(0), 0, has == 0 ? 0 : -1L >>> 64 - has, has == 0 ? 0 : 1);
            }
        });
        test("promise 11: its RUNS: of no NUMBERS none, of one one", () -> {
            PlaneColumn x = new PlaneColumn();
            due(x, x.level(0), 0, 0, 0);
            x.adds(0);
            due(x, x.level(0), 1, 0, 1);
            x.adds(0);
            due(x, x.level(0), 2, 0, 1);
            x.adds(255);
            due(x, x.level(0), 2, 4, 2);
        });
        test("promise 11: NONE: no such LEVEL.", () -> {
            PlaneColumn x = of("3,1,2,1");
            x.level(7);
            for (int j : new int[] {8, -1, 9, 64, LOW, HIGH}) {
                due(x, x.level(j), NONE, 7, 2);
            }
            due(new PlaneColumn().level(8), NONE);
        });
    }

    private static void spot() {
        test("promise 12: SPOT in LEVEL j (0 .. 8): the first and the last LEVEL", () -> {
            PlaneColumn x = of("255,0");
            due(x, x.spot(0, 0), 0, 0);
            due(x, x.spot(1, 0), 1, 0);
            due(x, x.spot(0, 1), 1, 1);
            due(x, x.spot(0, 8), 1, 255);
            due(x, x.spot(1, 8), 0, 0);
        });
        test("promise 12: the ROW: its j highest bits, as a number: of each LEVEL", () -> {
            PlaneColumn x = of("213");
            int[] heads = {0, 1, 3, 6, 13, 26, 53, 106, 213};
            for (int j = 0; j <= 8; j++) {
                due(x, x.spot(0, j), 0, heads[j]);
            }
        });
        test("promise 12: 64 NUMBERS: SPOT 63", () -> {
            PlaneColumn x = of("255,0x63");
            due(x, x.spot(0, 1), 63, 1);
            due(x, x.spot(63, 1), 62, 0);
            due(x, x.spot(0, 8), 63, 255);
        });
        test("promise 12: -2: no such PLACE", () -> {
            PlaneColumn x = of("3,1,2,1");
            x.spot(3, 8);
            for (int place : new int[] {4, -1, 64, LOW, HIGH}) {
                due(x, x.spot(place, 0), MISSING, 1);
                due(x, x.spot(place, 8), MISSING, 1);
            }
            due(new PlaneColumn().spot(0, 0), MISSING);
            due(of("9x64").spot(64, 8), MISSING);
        });
        test("promise 12: NONE: no such LEVEL.", () -> {
            PlaneColumn x = of("3,1,2,1");
            x.spot(3, 8);
            for (int j : new int[] {9, -1, 64, LOW, HIGH}) {
                due(x, x.spot(0, j), NONE, 1);
                due(x, x.spot(4, j), NONE, 1);
            }
        });
    }

    private static void from() {
        test("promise 13: at a SPOT of LEVEL j (0 .. 8): the first and the last LEVEL", () -> {
            PlaneColumn x = of("255,0");
            due(x, x.from(0, 0), 0, 255);
            due(x, x.from(0, 1), 1, 0);
            due(x, x.from(1, 0), 1, 0);
            due(x, x.from(8, 0), 1, 0);
            due(x, x.from(8, 1), 0, 255);
        });
        test("promise 13: The PLACE of the NUMBER at a SPOT: spot turned round, in each LEVEL", () -> {
            PlaneColumn x = of("9,200,9,77,0,255,128,1,64,3");
            for (int j = 0; j <= 8; j++) {
                for (int place = 0; place < 10; place++) {
                    due(x.from(j, x.spot(place, j)), place);
                }
            }
        });
        test("promise 13: 64 NUMBERS: SPOT 63", () -> {
            PlaneColumn x = of("255,0x63");
            due(x, x.from(8, 63), 0, 255);
            due(x, x.from(8, 62), 63, 0);
            due(x, x.from(8, 64), MISSING, 0);
        });
        test("promise 13: -2: no such SPOT", () -> {
            PlaneColumn x = of("3,1,2,1");
            x.from(0, 0);
            for (int spot : new int[] {4, -1, 64, LOW, HIGH}) {
                due(x, x.from(0, spot), MISSING, 3);
                due(x, x.from(8, spot), MISSING, 3);
            }
            due(new PlaneColumn().from(0, 0), MISSING);
        });
        test("promise 13: NONE: no such LEVEL.", () -> {
            PlaneColumn x = of("3,1,2,1");
            x.from(0, 0);
            for (int j : new int[] {9, -1, 64, LOW, HIGH}) {
                due(x, x.from(j, 0), NONE, 3);
                due(x, x.from(j, 4), NONE, 3);
            }
        });
    }

    private static void runs() {
        test("promise 14: RUNS of all LEVELS together: of no NUMBERS none", () -> {
            PlaneColumn x = new PlaneColumn();
            due(x, x.runs(), 0, 0, 0, 0, 0, 0, 0, 0, 0);
        });
        test("promise 14: RUNS of all LEVELS together: of one, of like ones one each", () -> {
            PlaneColumn x = of("170");
            due(x, x.runs(), 8, 1, 1, 1, 1, 1, 1, 1, 1);
            columnOf(x, "170x64");
            due(x, x.runs(), 8, 1, 1, 1, 1, 1, 1, 1, 1);
        });
        test("promise 14: the ROW: of each LEVEL: 64 in the first one", () -> {
            PlaneColumn x = new PlaneColumn();
            for (int i = 0; i < 64; i++) {
                x.adds(i % 2 == 0 ? 0 : 128);
            }
            due(x, x.runs(), 64 + 7, 64, 1, 1, 1, 1, 1, 1, 1);
        });
        test("promise 14: the ROW: of each LEVEL: 64 in the last one", () -> {
            PlaneColumn x = new PlaneColumn();
            for (int i = 0; i < 64; i++) {
                x.adds(i % 2);
            }
            due(x, x.runs(), 64 + 7, 1, 1, 1, 1, 1, 1, 1, 64);
        });
    }

    private static void thrift() {
        test("promise 15: The fewest RUNS together: of no NUMBERS none", () -> {
            PlaneColumn x = new PlaneColumn();
            due(x, x.thrift(), 0, DOWNWARD);
        });
        test("promise 15: The fewest RUNS together: of one NUMBER, of 64 like ones", () -> {
            PlaneColumn x = of("90");
            due(x, x.thrift(), 8, DOWNWARD);
            columnOf(x, "255x64");
            due(x, x.thrift(), 8, DOWNWARD);
            columnOf(x, "0x64");
            due(x, x.thrift(), 8, DOWNWARD);
        });
        test("promise 15: The fewest RUNS together: the order that there is may be the best", () -> {
            PlaneColumn x = of("0,64,128,192");
            due(x.runs(), 12);
            due(x, x.thrift(), 12, DOWNWARD);
        });
        test("promise 15: The fewest RUNS together, if LEVELS asked for bits in another order", () -> {
            // Bit 7 is 0101, bit 0 is 0011: bit 0 ahead of it leaves 2 and 4 RUNS in place of 4 and 4.
            PlaneColumn x = of("0,128,1,129");
            due(x.runs(), 4 + 6 + 4);
            due(x, x.thrift(), 2 + 6 + 4, 6, 5, 4, 3, 2, 1, 0, 7);
        });
        test("promise 15: of 64 NUMBERS that alternate in one bit", () -> {
            PlaneColumn x = new PlaneColumn();
            for (int i = 0; i < 64; i++) {
                x.adds(i % 2 == 0 ? 0 : 255);
            }
            due(x, x.thrift(), 64 + 14, DOWNWARD);
        });
        test("promise 15: of 64 NUMBERS in the order of size", () -> {
            // Bits 7 and 6 have one run each, bit 5 has 2 RUNS, bit 4 behind it 4 and so on.
            PlaneColumn x = rising(0, 64);
            due(x, x.thrift(), 1 + 1 + 2 + 4 + 8 + 16 + 32 + 64, DOWNWARD);
        });
        test("promise 15: (each bit once)", () -> {
            PlaneColumn x = of("9,200,9,77,0,255,128,1,64,3,9,18,27,36");
            x.thrift();
            int bits = 0;
            for (int j = 0; j < 8; j++) {
                due(x.row(j) >= 0 && x.row(j) <= 7, true);
                bits |= 1 << x.row(j);
            }
            due(bits, 255);
            due(x.count(2), 8);
        });
    }

    private static void thriftOfSeveral() {
        test("promise 15: of several the one with the greater bit at the first unlike LEVEL: all orders equal", () -> {
            PlaneColumn x = of("0,255");
            due(x, x.thrift(), 16, DOWNWARD);
            columnOf(x, "255,0");
            due(x, x.thrift(), 16, DOWNWARD);
        });
        test("promise 15: of several the one with the greater bit: bits that all have alike come where they are greater", () -> {
            // Bits 5 and 2 vary; bit 2 must come ahead of bit 5.
            PlaneColumn x = of("0,32,4,36");
            due(x, x.thrift(), 2 + 4 + 6, 7, 6, 4, 3, 2, 5, 1, 0);
        });
        test("promise 15: of several the one with the greater bit: the least bit ahead of all that vary", () -> {
            // Bit 0 is 0011, the others 0101: behind bit 0 one of them has 4 RUNS, those behind it 2 each.
            PlaneColumn x = of("0,254,1,255");
            due(x, x.thrift(), 2 + 4 + 6 * 2, 0, 7, 6, 5, 4, 3, 2, 1);
        });
        test("promise 15: parted likewise: first those that have 0", () -> {
            // Bit 1: 100, 2 RUNS; then 1, 0, 2: bit 0 has 100, 2 RUNS. With 2 ahead of 1, 0 it had 010.
            PlaneColumn x = of("2,1,0");
            due(x, x.thrift(), 6 + 2 + 2, DOWNWARD);
            // Bit 1: 100, 2 RUNS; then 1, 0, 3: bit 0 has 101, 3 RUNS. With 3 ahead of 1, 0 it had 110.
            columnOf(x, "3,1,0");
            due(x, x.thrift(), 6 + 2 + 3, DOWNWARD);
        });
        test("promise 15: parted likewise: in the order in which they stand", () -> {
            // Bit 1: 1010, 4 RUNS; then 0, 1, 2, 3: bit 0 has 0101, 4 RUNS.
            // Bit 0: 0011, 2 RUNS; then 2, 0, 3, 1: bit 1 has 1010, 4 RUNS.
            PlaneColumn x = of("2,0,3,1");
            due(x.runs(), 6 + 4 + 4);
            due(x, x.thrift(), 6 + 2 + 4, 7, 6, 5, 4, 3, 2, 0, 1);
        });
    }

    private static void thriftOfAnotherColumn() {
        Ask[] changes = {x -> x.adds(9), x -> x.puts(1, 77), x -> x.cuts(3), x -> x.swaps(1, 2), x -> x.reverses(0, 3),
            x -> columnOf(x, "9,200,9,77,0,255,128,1,64,3"), x -> columnOf(x, ""), x -> columnOf(x, "5x64"),
            x -> planesOf(x, "0110/0101/0000/0000/0000/0000/0000/1010")};
        for (int i = 0; i < changes.length; i++) {
            Ask change = changes[i];
            test("promise 15: of the COLUMN as it is now: change " + i, () -> {
                PlaneColumn asked = of("0,254,1,255");
                asked.thrift();
                change.of(asked);
                PlaneColumn fresh = of("0,254,1,255");
                change.of(fresh);
                due(asked.thrift(), fresh.thrift());
                due(seen(asked), seen(fresh));
            });
        }
        test("promise 15: bits that all have alike, behind a COLUMN in which they were not", () -> {
            PlaneColumn x = of("0,254,1,255");
            due(x, x.thrift(), 18, 0, 7, 6, 5, 4, 3, 2, 1);
            columnOf(x, "0,128");
            due(x, x.thrift(), 9, DOWNWARD);
            columnOf(x, "0,128,1,129");
            due(x, x.thrift(), 12, 6, 5, 4, 3, 2, 1, 0, 7);
            columnOf(x, "6,6");
            due(x, x.thrift(), 8, DOWNWARD);
            columnOf(x, "");
            due(x, x.thrift(), 0, DOWNWARD);
        });
        test("promise 15: a refused change leaves the answer", () -> {
            PlaneColumn x = of("0,128,1,129");
            x.thrift();
            due(x.puts(0, 0), -4);
            due(columnOf(x, "7,"), -1 - 2);
            due(planesOf(x, "0"), -1 - 1);
            due(x.cuts(4), MISSING);
            due(x, x.thrift(), 12, 6, 5, 4, 3, 2, 1, 0, 7);
        });
    }
}
