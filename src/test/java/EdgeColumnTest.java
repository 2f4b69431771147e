/** Each sentence of promises 1 to 10 that names a boundary case. */
public final class EdgeColumnTest extends TestBase {
    private static final int FULL = -3;
    private static final int ALREADY_SO = -4;

    public static void main(String[] args) {
        newObject();
        columnGranted();
        columnWrongSigns();
        columnWrongNumbers();
        columnTooMany();
        columnRefused();
        planesGranted();
        planesWrong();
        planesEverySign();
        adds();
        puts();
        cuts();
        swaps();
        reverses();
        sign();
        end();
        finish("EdgeColumnTest");
    }

    /** The text is refused at p, the COLUMN stays, THE TEXT is empty. */
    private static void dueWrong(String text, int p) {
        PlaneColumn x = of("4,4");
        due(columnOf(x, text), -1 - p);
        due(x.count(1), 0);
        dueNumbers(x, 4, 4);
    }

    private static void dueColumn(String text, int... numbers) {
        PlaneColumn x = of("4,4");
        due(columnOf(x, text), numbers.length);
        due(x.count(1), 0);
        dueNumbers(x, numbers);
    }

    private static void dueWrongPlanes(String text, int p) {
        PlaneColumn x = of("4,4");
        due(planesOf(x, text), -1 - p);
        due(x.count(1), 0);
        dueNumbers(x, 4, 4);
    }

    private static String eightRows(String row) {
        return row + ("/" + row).repeat(7);
    }

    // ---- promise 1

    private static void newObject() {
        test("promise 1: No NUMBERS.", () -> {
            PlaneColumn x = new PlaneColumn();
            for (int what = 0; what <= 5; what++) {
                due(x.count(what), 0);
            }
            for (int j = 0; j < 8; j++) {
                due(x, x.level(j), 0, 0, 0);
            }
            due(x.from(0, 0), MISSING);
            due(x.spot(0, 0), MISSING);
        });
        test("promise 1: No NUMBERS: an object made later has none of an earlier one", () -> {
            PlaneColumn x = of("1,2,3");
            PlaneColumn y = new PlaneColumn();
            due(y.count(0), 0);
            y.adds(9);
            dueNumbers(x, 1, 2, 3);
        });
    }

    // ---- promise 2

    private static void columnGranted() {
        test("promise 2: (in place of the one there is)", () -> {
            PlaneColumn x = of("1,2,3");
            due(columnOf(x, "9"), 1);
            dueNumbers(x, 9);
            due(columnOf(x, "5x64"), 64);
            due(columnOf(x, "6,7"), 2);
            dueNumbers(x, 6, 7);
            due(x, x.level(5), 0, 3, 1);
        });
        test("promise 2: (an empty text: no NUMBERS)", () -> {
            dueColumn("");
            PlaneColumn x = new PlaneColumn();
            due(x.column(), 0);
            x.sign('7' << 24);
            x.end(0);
            x.adds(5);
            due(x.column(), 0);
            due(x.count(0), 0);
        });
        test("promise 2: a NUMBER (one to three digits)", () -> {
            dueColumn("0,00,000", 0, 0, 0);
            dueColumn("7,07,007", 7, 7, 7);
            dueColumn("10,010,99,100", 10, 10, 99, 100);
            for (int v = 0; v <= 255; v++) {
                dueColumn(Integer.toString(v), v);
            }
        });
        test("promise 2: perhaps x and how often (one or two digits, 1 .. 64)", () -> {
            dueColumn("5x1,6x01", 5, 6);
            dueColumn("5x2,6x02", 5, 5, 6, 6);
            for (int times = 1; times <= 64; times++) {
                PlaneColumn x = new PlaneColumn();
                due(columnOf(x, "5x" + times), times);
                due(x.rank(5, times), times);
            }
        });
        test("promise 2: PARTS with , between: as many as THE TEXT can hold", () -> {
            PlaneColumn x = new PlaneColumn();
            due(columnOf(x, "8" + ",8".repeat(49)), 50);
            due(columnOf(x, "1x1,".repeat(24) + "1x01"), 25);
            due(columnOf(x, "1x1,".repeat(25)), -1 - 100);
        });
        test("promise 2: how many NUMBERS: 64 in one PART, in two, by one more", () -> {
            PlaneColumn x = new PlaneColumn();
            due(columnOf(x, "1x64"), 64);
            due(columnOf(x, "1x32,2x32"), 64);
            due(columnOf(x, "1x63,2"), 64);
            due(columnOf(x, "1,2x63"), 64);
            due(x.rank(2, 64), 63);
        });
    }

    private static boolean isDigit(int code) {
        return code >= '0' && code <= '9';
    }

    private static void columnWrongSigns() {
        test("promise 2: the sign at p can't stand there: as the first one", () -> {
            for (int code = 0; code < 256; code++) {
                if (isDigit(code)) {
                    dueColumn("" + (char) code, code - '0');
                } else {
                    dueWrong("" + (char) code, 0);
                }
            }
        });
        test("promise 2: the sign at p can't stand there: behind a digit", () -> {
            for (int code = 0; code < 256; code++) {
                if (isDigit(code)) {
                    dueColumn("1" + (char) code, 10 + code - '0');
                } else {
                    dueWrong("1" + (char) code + (code == ',' || code == 'x' ? "" : "2"), code == ',' || code == 'x' ? 2 : 1);
                }
            }
        });
        test("promise 2: the sign at p can't stand there: behind three digits", () -> {
            for (int code = 0; code < 256; code++) {
                dueWrong("123" + (char) code, code == ',' || code == 'x' ? 4 : 3);
            }
        });
        test("promise 2: the sign at p can't stand there: behind x", () -> {
            for (int code = 0; code < 256; code++) {
                if (isDigit(code) && code != '0') {
                    due(columnOf(new PlaneColumn(), "1x" + (char) code), code - '0');
                } else {
                    dueWrong("1x" + (char) code, 2);
                }
            }
        });
        test("promise 2: the sign at p can't stand there: behind how often", () -> {
            for (int code = 0; code < 256; code++) {
                if (isDigit(code)) {
                    due(columnOf(new PlaneColumn(), "1x2" + (char) code), 20 + code - '0');
                } else {
                    dueWrong("1x2" + (char) code, code == ',' ? 4 : 3);
                }
                dueWrong("1x22" + (char) code, code == ',' ? 5 : 4);
            }
        });
        test("promise 2: the sign at p can't stand there: behind ,", () -> {
            for (int code = 0; code < 256; code++) {
                if (isDigit(code)) {
                    dueColumn("1," + (char) code, 1, code - '0');
                } else {
                    dueWrong("1," + (char) code, 2);
                }
            }
        });
    }

    private static void columnWrongNumbers() {
        test("promise 2: of a NUMBER above 255 the last digit", () -> {
            for (int v = 256; v <= 999; v++) {
                dueWrong(Integer.toString(v), 2);
            }
            dueWrong("1,256", 4);
            dueWrong("256x2", 2);
            dueWrong("256,1", 2);
            dueWrong("256#", 2);
        });
        test("promise 2: of how often not 1 .. 64, the last digit: none", () -> {
            dueWrong("1x0", 2);
            dueWrong("1x00", 3);
            dueWrong("1x0,1", 2);
            dueWrong("1x0#", 2);
            dueWrong("2,1x00,1", 5);
        });
        test("promise 2: of how often not 1 .. 64, the last digit: too many", () -> {
            for (int times = 65; times <= 99; times++) {
                dueWrong("1x" + times, 3);
            }
            dueWrong("1,1x65,1", 5);
        });
        test("promise 2: a digit too many: of a NUMBER", () -> {
            dueWrong("0000", 3);
            dueWrong("1234", 3);
            dueWrong("2550", 3);
            dueWrong("0255", 3);
            dueWrong("12345", 3);
            dueWrong("1,0001x2", 5);
        });
        test("promise 2: a digit too many: of how often", () -> {
            dueWrong("1x011", 4);
            dueWrong("1x640", 4);
            dueWrong("1x100", 4);
            dueWrong("1x010,2", 4);
        });
        test("promise 2: its end, if it ends too early: behind ,", () -> {
            dueWrong("1,", 2);
            dueWrong("1,2,", 4);
            dueWrong("1x64,", 5);
        });
        test("promise 2: its end, if it ends too early: behind x", () -> {
            dueWrong("1x", 2);
            dueWrong("255x", 4);
            dueWrong("1x2,3x", 6);
        });
        test("promise 2: PART by PART", () -> {
            dueWrong("256,x", 2);
            dueWrong("1,,x", 2);
            dueWrong("1,2x0,300", 4);
            dueWrong("1x60,2x60,300", 5);
        });
        test("promise 2: in each from the left", () -> {
            dueWrong("256x0", 2);
            dueWrong("0000x0", 3);
            dueWrong("2561", 2);
            dueWrong("9999", 2);
            dueWrong("1x655", 3);
            dueWrong("1x005", 3);
            dueWrong("1xx", 2);
        });
    }

    private static void columnTooMany() {
        test("promise 2: of a PART that is right in itself, but with which there would be more than 64, its first sign", () -> {
            dueWrong("1x64,5", 5);
            dueWrong("1x64,255x64", 5);
            dueWrong("1x63,5x2", 5);
            dueWrong("1x63,005x02", 5);
            dueWrong("1x1,5x64", 4);
            dueWrong("1x32,2x32,3", 10);
            dueWrong("9x60,1,2,3,4,5", 13);
        });
        test("promise 2: more than 64: asked ahead of what stands behind it", () -> {
            dueWrong("1x64,5#", 5);
            dueWrong("1x64,5,", 5);
            dueWrong("1x64,5,#", 5);
            dueWrong("1x64,5x1x", 5);
            dueWrong("1x64,5x12#", 5);
            dueWrong("1x64,255#", 5);
            dueWrong("1x64,5,300", 5);
        });
        test("promise 2: not more than 64: what stands behind it is asked", () -> {
            dueWrong("1x63,5#", 6);
            dueWrong("1x63,5x1#", 8);
            dueWrong("1x64#", 4);
            dueWrong("1x64,", 5);
        });
        test("promise 2: a PART that is not right in itself is not asked for more than 64", () -> {
            dueWrong("1x64,300", 7);
            dueWrong("1x64,1000", 8);
            dueWrong("1x64,5x", 7);
            dueWrong("1x64,5x#", 7);
            dueWrong("1x64,5x0", 7);
            dueWrong("1x64,5x65", 8);
            dueWrong("1x64,5x011", 9);
            dueWrong("1x64,#", 5);
            dueWrong("1x64,x", 5);
        });
    }

    private static void columnRefused() {
        test("promise 2: Nothing comes then.", () -> {
            Maker maker = () -> {
                PlaneColumn x = of("200,7,9");
                x.level(4);
                return x;
            };
            String[] texts = {"1,2,3,x", "1x64,5", "256", "1x", "1,", "0x0", "1x5?"};
            for (String text : texts) {
                PlaneColumn x = maker.make();
                due(columnOf(x, text) < 0, true);
                due(seen(x), seen(maker.make()));
            }
        });
        test("promise 2: Nothing comes then: the next text is read from its own begin", () -> {
            PlaneColumn x = new PlaneColumn();
            due(columnOf(x, "1x60,#"), -1 - 5);
            due(columnOf(x, "2x60"), 60);
            due(columnOf(x, "3,"), -1 - 2);
            due(columnOf(x, "3"), 1);
            dueNumbers(x, 3);
        });
    }

    // ---- promise 3

    private static void planesGranted() {
        test("promise 3: eight rows of 0 and 1, the highest first: each NUMBER", () -> {
            for (int v = 0; v <= 255; v++) {
                StringBuilder text = new StringBuilder();
                for (int bit = 7; bit >= 0; bit--) {
                    text.append((char) ('0' + (v >> bit & 1))).append(bit > 0 ? "/" : "");
                }
                PlaneColumn x = of("4,4");
                due(planesOf(x, text.toString()), 1);
                due(x.count(1), 0);
                dueNumbers(x, v);
            }
        });
        test("promise 3: all as long as the first one (0 .. 11 signs): each length", () -> {
            for (int width = 0; width <= 11; width++) {
                PlaneColumn x = of("4,4");
                due(planesOf(x, eightRows("1".repeat(width))), width);
                due(x.count(0), width);
                due(x.rank(255, width), width);
                due(planesOf(x, eightRows("0".repeat(width))), width);
                due(x.rank(0, width), width);
            }
        });
        test("promise 3: (0 .. 11 signs): none: no NUMBERS", () -> {
            PlaneColumn x = of("4,4");
            due(planesOf(x, "///////"), 0);
            due(x.count(0), 0);
            due(x, x.level(5), 0, 0, 0);
        });
        test("promise 3: the COLUMN becomes that one of which they are the BITS, in order", () -> {
            String[] columns = {"200,5,5,130,7,200,64,0", "255,0,255,0,255,0,255,0,255,0,255", "0,1,2,3,4,5,6,7,8,9,10",
                "128,64,32,16,8,4,2,1", "1,128", "77"};
            for (String column : columns) {
                PlaneColumn x = of(column);
                StringBuilder text = new StringBuilder();
                for (int j = 0; j < 8; j++) {
                    x.level(j);
                    for (int spot = 0; spot < x.count(0); spot++) {
                        text.append((char) ('0' + (x.row(0) >>> spot & 1)));
                    }
                    text.append(j < 7 ? "/" : "");
                }
                PlaneColumn y = of("9x64");
                due(planesOf(y, text.toString()), x.count(0));
                due(numbersOf(y), numbersOf(x));
            }
        });
    }

    private static void planesWrong() {
        test("promise 3: a twelfth one of the first row", () -> {
            dueWrongPlanes("0".repeat(12), 11);
            dueWrongPlanes("1".repeat(12), 11);
            dueWrongPlanes("1".repeat(12) + "/", 11);
            dueWrongPlanes("01".repeat(50), 11);
            dueWrongPlanes(eightRows("0".repeat(12)).substring(0, 100), 11);
        });
        test("promise 3: of others one too many", () -> {
            for (int width = 0; width <= 11; width++) {
                for (int row = 1; row <= 7; row++) {
                    String ahead = ("1".repeat(width) + "/").repeat(row);
                    dueWrongPlanes(ahead + "0".repeat(width + 1), ahead.length() + width);
                    dueWrongPlanes(ahead + "1".repeat(width + 1) + "/", ahead.length() + width);
                }
            }
        });
        test("promise 3: of others / , if it is too short", () -> {
            for (int width = 1; width <= 11; width++) {
                for (int row = 1; row <= 7; row++) {
                    String ahead = ("1".repeat(width) + "/").repeat(row);
                    dueWrongPlanes(ahead + "0".repeat(width - 1) + "/", ahead.length() + width - 1);
                    dueWrongPlanes(ahead + "/", ahead.length());
                }
            }
        });
        test("promise 3: of others the end, if it is too short", () -> {
            for (int width = 1; width <= 11; width++) {
                for (int row = 1; row <= 7; row++) {
                    String ahead = ("1".repeat(width) + "/").repeat(row);
                    dueWrongPlanes(ahead + "0".repeat(width - 1), ahead.length() + width - 1);
                    dueWrongPlanes(ahead, ahead.length());
                }
            }
        });
        test("promise 3: / behind the eighth one", () -> {
            for (int width = 0; width <= 11; width++) {
                String right = eightRows("1".repeat(width));
                dueWrongPlanes(right + "/", right.length());
                dueWrongPlanes(right + "/" + "1".repeat(width), right.length());
            }
        });
        test("promise 3: its end, if it ends too early: at each length", () -> {
            for (String row : new String[] {"", "0", "10", "11011011011"}) {
                String right = eightRows(row);
                for (int n = 0; n < right.length(); n++) {
                    dueWrongPlanes(right.substring(0, n), n);
                }
            }
        });
        test("promise 3: The COLUMN stays then.", () -> {
            Maker maker = () -> {
                PlaneColumn x = of("200,7,9");
                x.level(4);
                return x;
            };
            String[] texts = {"", "0", "1".repeat(12), eightRows("11") + "/", "11/11/11/11/11/11/11/1", "1/1/1/1/1/1/1/2"};
            for (String text : texts) {
                PlaneColumn x = maker.make();
                due(planesOf(x, text) < 0, true);
                due(seen(x), seen(maker.make()));
            }
        });
    }

    private static void planesEverySign() {
        test("promise 3: the sign at p can't stand there: another sign than 0, 1 and / at each place", () -> {
            for (String row : new String[] {"", "1", "01"}) {
                String right = eightRows(row);
                for (int p = 0; p <= right.length(); p++) {
                    for (char sign : new char[] {'2', ',', 'x', ' ', '.', (char) 0, (char) 127, (char) 255}) {
                        dueWrongPlanes(right.substring(0, p) + sign, p);
                        dueWrongPlanes(right.substring(0, p) + sign + right.substring(p), p);
                    }
                }
            }
        });
        test("promise 3: the sign at p can't stand there: each sign as the first one, and behind a whole row", () -> {
            for (int code = 0; code < 256; code++) {
                boolean bit = code == '0' || code == '1';
                dueWrongPlanes("" + (char) code, bit || code == '/' ? 1 : 0);
                dueWrongPlanes("1/1" + (char) code, code == '/' ? 4 : 3);
                dueWrongPlanes("1".repeat(11) + (char) code, code == '/' ? 12 : 11);
                dueWrongPlanes(eightRows("1") + (char) code, 15);
            }
        });
    }

    // ---- promises 4 to 8

    private static void adds() {
        test("promise 4: A NUMBER comes behind the last one: behind none", () -> {
            PlaneColumn x = new PlaneColumn();
            due(x.adds(7), 1);
            due(x.adds(8), 2);
            dueNumbers(x, 7, 8);
        });
        test("promise 4: -3: there are 64.", () -> {
            PlaneColumn x = of("1x63");
            due(x.adds(2), 64);
            due(x.adds(3), FULL);
            due(x.adds(2), FULL);
            due(x.count(0), 64);
            due(x.rank(3, 64), 0);
            due(x.select(2, 0), 63);
        });
        test("promise 4: -3: there are 64: one that went leaves room for one", () -> {
            PlaneColumn x = of("1x64");
            due(x.adds(2), FULL);
            due(x.cuts(0), 1);
            due(x.adds(2), 64);
            due(x.adds(2), FULL);
        });
    }

    /** The BITS of all LEVELS, LEVEL by LEVEL. */
    private static long[] bitsOf(PlaneColumn x) {
        long[] bits = new long[8];
        for (int j = 0; j < 8; j++) {
            x.level(j);
            bits[j] = x.row(0);
        }
        return bits;
    }

    private static int apart(long[] one, long[] other) {
        int all = 0;
        for (int j = 0; j < 8; j++) {
            all += Long.bitCount(one[j] ^ other[j]);
        }
        return all;
    }

    private static void puts() {
        test("promise 5: what it was; the ROW: how many BITS are another one then: from 1 to all", () -> {
            PlaneColumn x = of("0");
            due(x, x.puts(0, 1), 0, 1);
            due(x, x.puts(0, 254), 1, 8);
            due(x, x.puts(0, 255), 254, 1);
            due(x, x.puts(0, 0), 255, 8);
        });
        test("promise 5: BITS (at the same SPOT): a NUMBER that goes another way moves others", () -> {
            PlaneColumn x = of("1,0,255,254,7,9");
            for (int place = 0; place < 6; place++) {
                for (int v : new int[] {128, 0, 255, 1}) {
                    long[] ahead = bitsOf(x);
                    int was = x.puts(place, v);
                    long told = x.row(0);
                    if (was != ALREADY_SO) {
                        due(told, apart(ahead, bitsOf(x)));
                    }
                }
            }
        });
        test("promise 5: BITS: all of 64 NUMBERS, at SPOT 63 too", () -> {
            PlaneColumn x = of("0x63,1");
            // 1 stands last in LEVEL 7; 255 stands last in all of them.
            due(x, x.puts(63, 255), 1, 7);
            due(x, x.puts(63, 0), 255, 8);
        });
        test("promise 5: -2: no such PLACE", () -> {
            PlaneColumn x = of("3,1,2,1");
            due(x.puts(3, 9), 1);
            due(x.puts(0, 9), 3);
            for (int place : new int[] {4, -1, 64, LOW, HIGH}) {
                due(x.puts(place, 5), MISSING);
            }
            dueNumbers(x, 9, 1, 2, 9);
            due(new PlaneColumn().puts(0, 0), MISSING);
            due(of("9x64").puts(64, 0), MISSING);
            due(of("9x64").puts(63, 0), 9);
        });
        test("promise 5: -4: it is so.", () -> {
            PlaneColumn x = of("0,255");
            due(x.puts(0, 0), ALREADY_SO);
            due(x.puts(1, 255), ALREADY_SO);
            due(x.puts(0, 255), 0);
            due(x.puts(0, 255), ALREADY_SO);
            dueNumbers(x, 255, 255);
        });
    }

    private static void cuts() {
        test("promise 6: The NUMBER at a PLACE goes, those behind it come one nearer: the first, the last, one between", () -> {
            PlaneColumn x = of("5,6,7,8,9");
            due(x.cuts(0), 5);
            dueNumbers(x, 6, 7, 8, 9);
            due(x.cuts(3), 9);
            dueNumbers(x, 6, 7, 8);
            due(x.cuts(1), 7);
            dueNumbers(x, 6, 8);
        });
        test("promise 6: The NUMBER at a PLACE goes: the only one", () -> {
            PlaneColumn x = of("255");
            due(x.cuts(0), 255);
            due(x.count(0), 0);
            due(x, x.level(0), 0, 0, 0);
            due(x.cuts(0), MISSING);
        });
        test("promise 6: The NUMBER at a PLACE goes: of 64", () -> {
            PlaneColumn x = of("255x64");
            due(x.cuts(63), 255);
            due(x, x.level(0), 0, Long.MAX_VALUE, 1);
            due(x.cuts(63), MISSING);
            due(x.cuts(62), 255);
            due(x.count(0), 62);
        });
        test("promise 6: -2: no such PLACE.", () -> {
            PlaneColumn x = of("3,1");
            for (int place : new int[] {2, -1, 63, 64, LOW, HIGH}) {
                due(x.cuts(place), MISSING);
            }
            dueNumbers(x, 3, 1);
            due(new PlaneColumn().cuts(0), MISSING);
        });
    }

    private static void swaps() {
        test("promise 7: NUMBERS at two PLACES change places: the first and the last, either way round", () -> {
            PlaneColumn x = of("1,2,3");
            due(x.swaps(0, 2) > 0, true);
            dueNumbers(x, 3, 2, 1);
            due(x.swaps(2, 0) > 0, true);
            dueNumbers(x, 1, 2, 3);
            due(x.swaps(1, 2) > 0, true);
            dueNumbers(x, 1, 3, 2);
        });
        test("promise 7: how many BITS of all LEVELS are another one then: of like NUMBERS none", () -> {
            PlaneColumn x = of("9,7,9");
            due(x.swaps(0, 2), 0);
            dueNumbers(x, 9, 7, 9);
        });
        test("promise 7: how many BITS of all LEVELS are another one then", () -> {
            // 0, 255: LEVEL 0 has 01, and so have all behind it; 255, 0: LEVEL 0 has 10, all others 01.
            PlaneColumn x = of("0,255");
            due(x.swaps(0, 1), 2);
            PlaneColumn y = of("1,0,255,254,7,9");
            for (int one = 0; one < 6; one++) {
                for (int other = 0; other < 6; other++) {
                    if (one != other) {
                        long[] ahead = bitsOf(y);
                        due(y.swaps(one, other), apart(ahead, bitsOf(y)));
                    }
                }
            }
        });
        test("promise 7: -2: no such PLACES", () -> {
            PlaneColumn x = of("3,1");
            for (int place : new int[] {2, -1, 64, LOW, HIGH}) {
                due(x.swaps(0, place), MISSING);
                due(x.swaps(place, 0), MISSING);
                due(x.swaps(place, place), MISSING);
            }
            dueNumbers(x, 3, 1);
            due(new PlaneColumn().swaps(0, 1), MISSING);
        });
        test("promise 7: -2: both are one.", () -> {
            PlaneColumn x = of("3,1");
            due(x.swaps(0, 0), MISSING);
            due(x.swaps(1, 1), MISSING);
            dueNumbers(x, 3, 1);
        });
    }

    private static void reverses() {
        test("promise 8: NUMBERS of a SPAN stand the other way round: all, an even and an odd number of them", () -> {
            PlaneColumn x = of("1,2,3,4");
            due(x.reverses(0, 4) > 0, true);
            dueNumbers(x, 4, 3, 2, 1);
            due(x.reverses(1, 4) > 0, true);
            dueNumbers(x, 4, 1, 2, 3);
            due(x.reverses(0, 2) > 0, true);
            dueNumbers(x, 1, 4, 2, 3);
        });
        test("promise 8: a SPAN of none, of one: no BITS are another one", () -> {
            PlaneColumn x = of("1,2,3");
            due(x.reverses(0, 0), 0);
            due(x.reverses(3, 3), 0);
            due(x.reverses(0, 1), 0);
            due(x.reverses(2, 3), 0);
            dueNumbers(x, 1, 2, 3);
            due(new PlaneColumn().reverses(0, 0), 0);
        });
        test("promise 8: how many BITS of all LEVELS are another one then", () -> {
            PlaneColumn x = of("1,0,255,254,7,9");
            for (int l = 0; l <= 6; l++) {
                for (int r = l; r <= 6; r++) {
                    long[] ahead = bitsOf(x);
                    due(x.reverses(l, r), apart(ahead, bitsOf(x)));
                }
            }
        });
        test("promise 8: 64 NUMBERS the other way round", () -> {
            PlaneColumn x = rising(0, 64);
            due(x.reverses(0, 64) > 0, true);
            for (int i = 0; i < 64; i++) {
                due(x.select(i, 0), 63 - i);
            }
        });
    }

    // ---- promises 9 and 10

    private static void sign() {
        test("promise 9: of v the highest byte first", () -> {
            PlaneColumn x = new PlaneColumn();
            due(x.sign(0x31323378), 4);
            due(x.sign(0x33000000), 8);
            due(x.end(5), true);
            due(x.column(), 3);
            dueNumbers(x, 123, 123, 123);
        });
        test("promise 9: of v the highest byte first: a byte above 127 is a sign like others", () -> {
            PlaneColumn x = new PlaneColumn();
            due(x.sign(-1), 4);
            due(x.column(), -1);
            due(x.sign(0x31B1B2B3), 4);
            due(x.column(), -1 - 1);
            due(x.sign(0x313232FF), 4);
            due(x.column(), -1 - 3);
            due(x.sign(LOW), 4);
            due(x.column(), -1);
        });
        test("promise 9: how many it has: 4 to 100", () -> {
            PlaneColumn x = new PlaneColumn();
            for (int i = 1; i <= 25; i++) {
                due(x.sign(0x30303030), 4 * i);
                due(x.count(1), 4 * i);
            }
        });
        test("promise 9: Refused: there would be more than 100.", () -> {
            for (int has = 93; has <= 100; has++) {
                PlaneColumn x = new PlaneColumn();
                write(x, "0".repeat(has));
                due(x.count(1), has);
                due(x.sign(0x31313131), has <= 96 ? has + 4 : NONE);
                due(x.count(1), has <= 96 ? has + 4 : has);
            }
        });
        test("promise 9: Refused: THE TEXT stays, and none of the four signs comes", () -> {
            PlaneColumn x = new PlaneColumn();
            write(x, "1" + ",1".repeat(49));
            due(x.count(1), 99);
            due(x.sign(0x2C312C31), NONE);
            due(x.column(), 50);
        });
    }

    private static void end() {
        test("promise 10: THE TEXT has its first n signs alone: none, one, all", () -> {
            PlaneColumn x = new PlaneColumn();
            x.sign(0x37383939);
            due(x.end(4), true);
            due(x.count(1), 4);
            due(x.end(1), true);
            due(x.count(1), 1);
            due(x.end(1), true);
            due(x.end(0), true);
            due(x.count(1), 0);
            due(x.end(0), true);
        });
        test("promise 10: false if it has not so many", () -> {
            PlaneColumn x = new PlaneColumn();
            due(x.end(1), false);
            x.sign(0x37383900);
            due(x.end(5), false);
            due(x.end(100), false);
            due(x.end(HIGH), false);
            due(x.count(1), 4);
            due(x.end(3), true);
            due(x.end(4), false);
            due(x.column() < 0, true);
            due(x.end(1), false);
        });
        test("promise 10: false if n is below 0", () -> {
            PlaneColumn x = new PlaneColumn();
            due(x.end(-1), false);
            x.sign(0x37000000);
            due(x.end(-1), false);
            due(x.end(LOW), false);
            due(x.count(1), 4);
            due(x.end(1), true);
            due(x.column(), 1);
        });
        test("promise 10: signs that are cut off do not come again", () -> {
            PlaneColumn x = new PlaneColumn();
            x.sign(0x31323334);
            due(x.end(1), true);
            due(x.sign(0x2C352C36), 5);
            due(x.column(), 3);
            dueNumbers(x, 1, 5, 6);
        });
    }
}
