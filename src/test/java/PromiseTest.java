/** Each promise of the document with ordinary inputs, the edges that it names and wrong inputs. */
public final class PromiseTest extends TestBase {
    private static final String FOUR = "3,1,2,1";
    private static final String EIGHT = "200,5,5,130,7,200,64,0";

    public static void main(String[] args) {
        newObject();
        column();
        planes();
        adds();
        puts();
        cuts();
        swaps();
        reverses();
        sign();
        end();
        level();
        spot();
        from();
        runs();
        thrift();
        kth();
        rank();
        select();
        band();
        below();
        above();
        sums();
        often();
        mode();
        across();
        turned();
        spread();
        nearest();
        dense();
        farthest();
        fit();
        gap();
        narrow();
        lone();
        rises();
        marks();
        common();
        lacking();
        both();
        same();
        count();
        row();
        refusals();
        bitsBehindChanges();
        ends();
        finish("PromiseTest");
    }

    private static void promise(int number) {
        begin("promise " + number);
    }

    /** A text that is right and longer than a column: many parts. */
    private static String times(String part, int n) {
        StringBuilder all = new StringBuilder(part);
        for (int i = 1; i < n; i++) {
            all.append(',').append(part);
        }
        return all.toString();
    }

    // ---- the column

    private static void newObject() {
        promise(1);
        PlaneColumn x = new PlaneColumn();
        for (int what = 0; what <= 5; what++) {
            due(x.count(what), 0);
        }
        due(x.end(0) ? 1 : 0, 1);
        due(x.end(1) ? 1 : 0, 0);
        due(PlaneColumn.NONE, -1);
    }

    private static void column() {
        promise(2);
        PlaneColumn x = new PlaneColumn();
        due(columnOf(x, "7,255,0,007x2,1x1"), 6);
        dueNumbers(x, 7, 255, 0, 7, 7, 1);
        due(columnOf(x, "12"), 1);
        dueNumbers(x, 12);
        due(x.count(1), 0);
        due(x.column(), 0);
        due(x.count(0), 0);
        due(columnOf(x, times("9", 50)), 50);
        due(columnOf(x, "0x64"), 64);
        due(columnOf(x, "1x05"), 5);
        due(columnOf(x, "5x63,6"), 64);
        due(columnOf(x, "4,4"), 2);
        String[] texts = {"256", "2561", "999", "1000", "0000", "1x0", "1x00", "1x005", "1x0,", "1x65", "1x645", "1x655",
            "1x99", "1x9", "x", "x5", ",", "1,", "1,,2", "1x", "1x,", "1xx2", "1x2x", "1x2x3", " 1", "1 ", "1;2", "-1",
            "1x-1", "1X2", "12345", "1,256", "1,2x70", "a"};
        int[] at = {2, 2, 2, 3, 3, 2, 3, 3, 2, 3, 4, 3,
            3, HIGH, 0, 0, 0, 2, 2, 2, 2, 2, 3, 3, 0, 1, 1, 0,
            2, 1, 3, 4, 5, 0};
        for (int i = 0; i < texts.length; i++) {
            if (at[i] == HIGH) {
                due(columnOf(x, texts[i]), 9);
                columnOf(x, "4,4");
            } else {
                due(columnOf(x, texts[i]), -1 - at[i]);
                due(x.count(1), 0);
                dueNumbers(x, 4, 4);
            }
        }
        columnTooLong(x);
    }

    private static void columnTooLong(PlaneColumn x) {
        due(columnOf(x, "1x64,5"), -1 - 5);
        due(columnOf(x, "1x64,5#"), -1 - 5);
        due(columnOf(x, "1x64,5,#"), -1 - 5);
        due(columnOf(x, "1x64,5x"), -1 - 7);
        due(columnOf(x, "1x64,5x2?"), -1 - 5);
        due(columnOf(x, "1x64,1000"), -1 - 8);
        due(columnOf(x, "1x64,300"), -1 - 7);
        due(columnOf(x, "1x64,"), -1 - 5);
        due(columnOf(x, "1x64#"), -1 - 4);
        due(columnOf(x, "2x60,1,5x4"), -1 - 7);
        due(columnOf(x, "1x63,5x1?"), -1 - 8);
        due(columnOf(x, "#x64,1x64"), -1);
        dueNumbers(x, 4, 4);
    }

    private static void planes() {
        promise(3);
        PlaneColumn x = new PlaneColumn();
        due(planesOf(x, "10010100/00010101/00000000/00000000/00000011/11100000/01000001/00001101"), 8);
        dueNumbers(x, 200, 5, 5, 130, 7, 200, 64, 0);
        due(x.count(1), 0);
        due(planesOf(x, "1/0/0/0/0/0/0/1"), 1);
        dueNumbers(x, 129);
        String wide = "11111111111";
        due(planesOf(x, wide + ("/" + wide).repeat(7)), 11);
        dueNumbers(x, 255, 255, 255, 255, 255, 255, 255, 255, 255, 255, 255);
        due(planesOf(x, "///////"), 0);
        due(x.count(0), 0);
        columnOf(x, "4,4");
        String[] texts = {"", "0", "0/", "111111111111", "0/01", "00/0/", "00/0", "00/0x", "////////", "//////",
            "0/0/0/0/0/0/0/", "0/0/0/0/0/0/0/0/", "0/0/0/0/0/0/0/00", "0/0/0/0/0/0/0", "2", "0/2", "/0", "///////0",
            "0/0/0/0/0/0/0/0,", "00/00/00/00/00/00/00/0", ",", "01/10a"};
        int[] at = {0, 1, 2, 11, 3, 4, 4, 4, 7, 6,
            14, 15, 15, 13, 0, 2, 1, 7,
            15, 22, 0, 5};
        for (int i = 0; i < texts.length; i++) {
            due(planesOf(x, texts[i]), -1 - at[i]);
            due(x.count(1), 0);
            dueNumbers(x, 4, 4);
        }
    }

    private static void adds() {
        promise(4);
        PlaneColumn x = new PlaneColumn();
        due(x.adds(255), 1);
        due(x.adds(0), 2);
        due(x.adds(0), 3);
        dueNumbers(x, 255, 0, 0);
        due(x.adds(-1), -1);
        due(x.adds(256), -1);
        due(x.adds(LOW), -1);
        due(x.adds(HIGH), -1);
        due(x.count(0), 3);
        columnOf(x, "1x63");
        due(x.adds(9), 64);
        due(x.adds(9), -3);
        due(x.adds(256), -1);
        due(x.count(0), 64);
        due(x.rank(9, 64), 1);
    }

    private static void puts() {
        promise(5);
        PlaneColumn x = of(FOUR);
        // 3,1,2,1 has in LEVELS 6 and 7 1010 and 1110; 3,1,2,3 has 1011 and 1101.
        due(x, x.puts(3, 3), 1, 3);
        dueNumbers(x, 3, 1, 2, 3);
        due(x, x.puts(3, 3), -4, 3);
        due(x, x.puts(4, 3), -2, 3);
        due(x, x.puts(-1, 3), -2, 3);
        due(x, x.puts(HIGH, 3), -2, 3);
        due(x, x.puts(0, 256), -1, 3);
        due(x, x.puts(0, -1), -1, 3);
        due(x, x.puts(9, 256), -1, 3);
        dueNumbers(x, 3, 1, 2, 3);
        PlaneColumn y = of("0");
        due(y, y.puts(0, 255), 0, 8);
    }

    private static void cuts() {
        promise(6);
        PlaneColumn x = of("3,1,2,9");
        due(x.cuts(1), 1);
        dueNumbers(x, 3, 2, 9);
        due(x.cuts(3), -2);
        due(x.cuts(-1), -2);
        due(x.cuts(LOW), -2);
        due(x.cuts(2), 9);
        due(x.cuts(0), 3);
        due(x.cuts(0), 2);
        due(x.cuts(0), -2);
        due(x.count(0), 0);
        due(x, x.level(6), 0, 0, 0);
    }

    private static void swaps() {
        promise(7);
        PlaneColumn x = of(FOUR);
        // 1,3,2,1: LEVELS 6 and 7 have 0110 and 1110 in place of 1010 and 1110 (1,1,3,2 parted; 1,1,3,2).
        due(x.swaps(0, 1), 2);
        dueNumbers(x, 1, 3, 2, 1);
        due(x.swaps(3, 0), 0);
        due(x.swaps(2, 2), -2);
        due(x.swaps(0, 4), -2);
        due(x.swaps(4, 0), -2);
        due(x.swaps(-1, 0), -2);
        due(x.swaps(0, LOW), -2);
        dueNumbers(x, 1, 3, 2, 1);
        due(x.swaps(3, 1), 4);
        dueNumbers(x, 1, 1, 2, 3);
        due(x.count(2), 0);
    }

    private static void reverses() {
        promise(8);
        PlaneColumn x = of(FOUR);
        due(x.reverses(0, 4), 6);
        dueNumbers(x, 1, 2, 1, 3);
        due(x.reverses(1, 3), 2);
        dueNumbers(x, 1, 1, 2, 3);
        due(x.reverses(2, 2), 0);
        due(x.reverses(3, 4), 0);
        due(x.reverses(4, 4), 0);
        due(x.reverses(3, 2), -1);
        due(x.reverses(-1, 2), -1);
        due(x.reverses(0, 5), -1);
        due(x.reverses(LOW, HIGH), -1);
        dueNumbers(x, 1, 1, 2, 3);
    }

    private static void sign() {
        promise(9);
        PlaneColumn x = new PlaneColumn();
        due(x.sign('1' << 24 | '2' << 16 | ',' << 8 | '3'), 4);
        due(x.column(), 2);
        dueNumbers(x, 12, 3);
        for (int i = 1; i <= 25; i++) {
            due(x.sign(-1), 4 * i);
        }
        due(x.sign(0), -1);
        due(x.count(1), 100);
        due(x.end(97) ? 1 : 0, 1);
        due(x.sign(0), -1);
        due(x.count(1), 97);
        due(x.end(96) ? 1 : 0, 1);
        due(x.sign(0), 100);
        due(x.column(), -1);
        due(x.count(1), 0);
        dueNumbers(x, 12, 3);
    }

    private static void end() {
        promise(10);
        PlaneColumn x = new PlaneColumn();
        x.sign('7' << 24 | '8' << 16 | '9' << 8 | '9');
        due(x.end(5) ? 1 : 0, 0);
        due(x.end(-1) ? 1 : 0, 0);
        due(x.end(LOW) ? 1 : 0, 0);
        due(x.end(HIGH) ? 1 : 0, 0);
        due(x.count(1), 4);
        due(x.end(4) ? 1 : 0, 1);
        due(x.end(2) ? 1 : 0, 1);
        due(x.end(3) ? 1 : 0, 0);
        due(x.column(), 1);
        dueNumbers(x, 78);
        due(x.end(0) ? 1 : 0, 1);
        due(x.end(1) ? 1 : 0, 0);
    }

    // ---- planes

    private static void level() {
        promise(11);
        PlaneColumn x = of(EIGHT);
        long[] zeros = {5, 5, 8, 8, 6, 5, 6, 5};
        long[] bits = {41, 168, 0, 0, 192, 7, 130, 176};
        long[] runs = {6, 6, 1, 1, 2, 2, 4, 4};
        for (int j = 0; j < 8; j++) {
            due(x, x.level(j), zeros[j], bits[j], runs[j]);
        }
        due(x, x.level(8), -1, 176, 4);
        due(x, x.level(-1), -1, 176, 4);
        due(x, x.level(HIGH), -1, 176, 4);
        PlaneColumn full = of("255x64");
        due(full, full.level(7), 0, -1, 1);
        full.puts(63, 0);
        due(full, full.level(0), 1, HIGH * 4294967296L + 4294967295L, 2);
        PlaneColumn empty = new PlaneColumn();
        due(empty, empty.level(3), 0, 0, 0);
    }

    private static void spot() {
        promise(12);
        PlaneColumn x = of(EIGHT);
        int[] at8 = {2, 5, 6, 4, 7, 3, 1, 0};
        int[] numbers = {200, 5, 5, 130, 7, 200, 64, 0};
        for (int place = 0; place < 8; place++) {
            due(x, x.spot(place, 0), place, 0);
            due(x, x.spot(place, 8), at8[place], numbers[place]);
        }
        due(x, x.spot(0, 1), 5, 1);
        due(x, x.spot(0, 2), 6, 3);
        due(x, x.spot(3, 2), 4, 2);
        due(x, x.spot(3, 6), 1, 32);
        due(x, x.spot(8, 6), -2, 32);
        due(x, x.spot(-1, 6), -2, 32);
        due(x, x.spot(0, 9), -1, 32);
        due(x, x.spot(0, -1), -1, 32);
        due(x, x.spot(8, 9), -1, 32);
    }

    private static void from() {
        promise(13);
        PlaneColumn x = of(EIGHT);
        int[] at8 = {7, 6, 0, 5, 3, 1, 2, 4};
        int[] numbers = {0, 64, 200, 200, 130, 5, 5, 7};
        for (int spot = 0; spot < 8; spot++) {
            due(x.from(0, spot), spot);
            due(x, x.from(8, spot), at8[spot], numbers[spot]);
        }
        due(x, x.from(2, 4), 3, 130);
        due(x, x.from(6, 1), 3, 130);
        due(x, x.from(6, 8), -2, 130);
        due(x, x.from(6, -1), -2, 130);
        due(x, x.from(9, 0), -1, 130);
        due(x, x.from(-1, 0), -1, 130);
        due(x, x.from(9, 9), -1, 130);
    }

    private static void runs() {
        promise(14);
        PlaneColumn x = of(EIGHT);
        due(x, x.runs(), 26, 6, 6, 1, 1, 2, 2, 4, 4);
        PlaneColumn empty = new PlaneColumn();
        due(empty, empty.runs(), 0, 0, 0, 0, 0, 0, 0, 0, 0);
        PlaneColumn one = of("77");
        due(one, one.runs(), 8, 1, 1, 1, 1, 1, 1, 1, 1);
    }

    private static void thrift() {
        promise(15);
        PlaneColumn empty = new PlaneColumn();
        due(empty, empty.thrift(), 0, 7, 6, 5, 4, 3, 2, 1, 0);
        PlaneColumn like = of("77x9");
        due(like, like.thrift(), 8, 7, 6, 5, 4, 3, 2, 1, 0);
        // Bit 7 is 0101, bit 6 0011. With 7 first there are 4 and 4 runs, with 6 first 2 and 4.
        PlaneColumn two = of("0,128,64,192");
        due(two, two.thrift(), 6 + 2 + 4, 6, 7, 5, 4, 3, 2, 1, 0);
        // Bits 3 and 1 likewise; of the bits that all have alike, the greater than 1 come ahead of it.
        PlaneColumn low = of("0,8,2,10");
        due(low, low.thrift(), 6 + 2 + 4, 7, 6, 5, 4, 2, 1, 3, 0);
        PlaneColumn four = of(FOUR);
        due(four, four.thrift(), 11, 7, 6, 5, 4, 3, 2, 0, 1);
        four.cuts(3);
        due(four, four.thrift(), 6 + 2 + 2, 7, 6, 5, 4, 3, 2, 0, 1);
        // Equal either way: bit 7 is 01 and bit 6 is 01, so the greater one comes first.
        PlaneColumn equal = of("0,192");
        due(equal, equal.thrift(), 6 + 2 + 2, 7, 6, 5, 4, 3, 2, 1, 0);
        thriftBehindChanges();
    }

    private static void thriftBehindChanges() {
        long[] sixFirst = {6, 7, 5, 4, 3, 2, 1, 0};
        long[] sevenFirst = {7, 6, 5, 4, 3, 2, 1, 0};
        PlaneColumn x = of("0,128,64,192");
        due(x, x.thrift(), 12, sixFirst);
        due(x, x.thrift(), 12, sixFirst);
        columnOf(x, "0,64,128,192");
        due(x, x.thrift(), 12, sevenFirst);
        due(planesOf(x, "0101/0101/0000/0000/0000/0000/0000/0000"), 4);
        due(x, x.thrift(), 12, sixFirst);
        x.reverses(1, 3);
        due(x, x.thrift(), 12, sevenFirst);
        x.swaps(1, 2);
        due(x, x.thrift(), 12, sixFirst);
        x.puts(1, 0);
        due(x, x.thrift(), 10, sevenFirst);
        columnOf(x, "0");
        due(x, x.thrift(), 8, sevenFirst);
        x.adds(255);
        due(x, x.thrift(), 16, sevenFirst);
        x.cuts(1);
        due(x, x.thrift(), 8, sevenFirst);
        columnOf(x, "");
        due(x, x.thrift(), 0, sevenFirst);
    }

    /** BITS follow each way in which NUMBERS come and go. */
    private static void bitsBehindChanges() {
        promise(11);
        PlaneColumn x = new PlaneColumn();
        x.adds(255);
        due(x, x.level(7), 0, 1, 1);
        x.adds(0);
        due(x, x.level(0), 1, 1, 2);
        due(x, x.level(7), 1, 2, 2);
        x.swaps(0, 1);
        due(x, x.level(0), 1, 2, 2);
        x.reverses(0, 2);
        due(x, x.level(0), 1, 1, 2);
        planesOf(x, "110/001/000/000/000/000/000/111");
        due(x, x.level(0), 1, 3, 2);
        due(x, x.level(7), 0, 7, 1);
        x.puts(2, 255);
        due(x, x.level(0), 0, 7, 1);
        x.cuts(2);
        due(x, x.level(0), 0, 3, 1);
        columnOf(x, "0x3");
        due(x, x.level(0), 3, 0, 1);
    }

    /** The least and the greatest NUMBER there is, in all calls that go through the NUMBERS. */
    private static void ends() {
        promise(0);
        PlaneColumn x = of("255,0,255,0,0,9,255");
        due(x, x.kth(0, 7, 6), 255, 3, 0);
        due(x, x.band(0, 7, 255, 255), 3, 9);
        due(x, x.band(0, 7, 0, 0), 3, 9);
        due(x.often(0, 7, 3), 2);
        due(x.row(1), 0);
        due(x.row(3), 255);
        due(x, x.across(0, 7, 0, 6), 255, 255);
        due(x, x.across(0, 7, 255, 6), 255, 0);
        due(x, x.across(0, 1, 255, 0), 0, 255);
        due(x, x.farthest(0, 1, 255), 0, 255, 1);
        due(x, x.lone(0, 2), 2, 0, 255);
        due(x, x.lone(4, 7), 3, 0, 255);
        due(x, x.gap(0, 7), 246, 9, 255);
        due(x, x.gap(4, 6), 9, 0, 9);
        due(x, x.mode(1, 7), 0, 3);
        due(x, x.mode(5, 6), 9, 1);
        due(x, x.sums(1, 4, 3), 255, 255);
        due(x, x.sums(3, 5, 4), -2, 255);
        due(x, x.common(0, 5, 2, 7), 2, 17, 0, 3, 2, 255, 2, 2);
        due(x, x.common(0, 4, 3, 7), 2, 17, 0, 2, 2, 255, 2, 1);
        due(x, x.lacking(0, 2, 5, 6), 2, 0, 1, 255, 1);
        due(x, x.both(0, 7, 0, 7, 13), 255, 3, 3);
        due(x, x.both(0, 7, 3, 7, 0), 0, 3, 2);
        due(x, x.same(1, 2, 3, 5), 0, 0, 0, 1);
        due(x, x.same(0, 1, 2, 2), 0, 255, 1, 0);
        due(x, x.marks(0, 7, 255), 3, 0, 2, 6);
        due(x, x.dense(0, 7, 254), 4, 0);
        due(x, x.fit(0, 7, 9), 4, 9);
    }

    // ---- one span

    private static void kth() {
        promise(16);
        PlaneColumn x = of(EIGHT);
        due(x, x.kth(0, 8, 0), 0, 1, 7);
        due(x, x.kth(0, 8, 1), 5, 2, 1);
        due(x, x.kth(0, 8, 2), 5, 2, 1);
        due(x, x.kth(2, 8, 1), 5, 1, 2);
        due(x, x.kth(0, 8, 7), 200, 2, 0);
        due(x, x.kth(1, 8, 6), 200, 1, 5);
        due(x, x.kth(0, 8, 8), -2, 1, 5);
        due(x, x.kth(3, 3, 0), -2, 1, 5);
        due(x, x.kth(0, 8, HIGH), -2, 1, 5);
        due(x, x.kth(0, 8, -1), -1, 1, 5);
        due(x, x.kth(0, 9, 0), -1, 1, 5);
        due(x, x.kth(5, 4, 0), -1, 1, 5);
        due(x, x.kth(-1, 4, 9), -1, 1, 5);
    }

    private static void rank() {
        promise(17);
        PlaneColumn x = of(EIGHT);
        x.level(0);
        due(x, x.rank(5, 8), 2, 41, 6);
        due(x.rank(5, 2), 1);
        due(x.rank(5, 1), 0);
        due(x.rank(200, 5), 1);
        due(x.rank(200, 6), 2);
        due(x.rank(9, 8), 0);
        due(x.rank(5, 0), 0);
        due(x.rank(5, 9), -1);
        due(x.rank(5, -1), -1);
        due(x.rank(256, 1), -1);
        due(x.rank(-1, 1), -1);
        due(new PlaneColumn().rank(0, 0), 0);
        due(new PlaneColumn().rank(0, 1), -1);
    }

    private static void select() {
        promise(18);
        PlaneColumn x = of(EIGHT);
        due(x, x.select(5, 0), 1);
        due(x.select(5, 1), 2);
        due(x.select(200, 1), 5);
        due(x.select(0, 0), 7);
        due(x.select(5, 2), -2);
        due(x.select(9, 0), -2);
        due(x.select(5, HIGH), -2);
        due(x.select(5, -1), -1);
        due(x.select(256, 0), -1);
        due(x.select(-1, 0), -1);
        due(x.select(-1, -1), -1);
    }

    private static void band() {
        promise(19);
        PlaneColumn x = of(EIGHT);
        due(x, x.band(0, 8, 0, 255), 8, 1);
        // LEVEL 0, then 0 .. 127 alone.
        due(x, x.band(0, 8, 0, 127), 5, 2);
        // One NODE of each LEVEL down to 200.
        due(x, x.band(0, 8, 200, 200), 2, 9);
        // 65 .. 66: down to 64 .. 127, 64 .. 95, .., 64 .. 67, 64 .. 65, 66 .. 67 has none, 65 has none.
        due(x, x.band(0, 8, 65, 66), 0, 8);
        due(x, x.band(0, 8, 100, 150), 1, 4 + 1 + 1 + 1);
        due(x, x.band(3, 3, 0, 255), 0, 0);
        due(x, x.band(3, 3, 5, 5), 0, 0);
        due(x, x.band(0, 1, 0, 3), 0, 1);
        due(x, x.band(0, 8, 6, 5), -1, 1);
        due(x, x.band(0, 8, -1, 5), -1, 1);
        due(x, x.band(0, 8, 0, 256), -1, 1);
        due(x, x.band(0, 9, 0, 5), -1, 1);
        due(x, x.band(0, 8, LOW, HIGH), -1, 1);
    }

    private static void below() {
        promise(20);
        PlaneColumn x = of(EIGHT);
        due(x, x.below(0, 8, 256), 200, 2);
        due(x, x.below(0, 5, 256), 200, 1);
        due(x, x.below(0, 8, 200), 130, 1);
        due(x, x.below(0, 8, 7), 5, 2);
        due(x, x.below(0, 8, 1), 0, 1);
        due(x, x.below(0, 7, 5), -2, 1);
        due(x, x.below(2, 2, 256), -2, 1);
        due(x, x.below(0, 8, 0), -1, 1);
        due(x, x.below(0, 8, 257), -1, 1);
        due(x, x.below(0, 8, LOW), -1, 1);
        due(x, x.below(0, 9, 5), -1, 1);
    }

    private static void above() {
        promise(21);
        PlaneColumn x = of(EIGHT);
        due(x, x.above(0, 8, -1), 0, 1);
        due(x, x.above(0, 8, 0), 5, 2);
        due(x, x.above(2, 8, 0), 5, 1);
        due(x, x.above(0, 8, 5), 7, 1);
        due(x, x.above(0, 8, 199), 200, 2);
        due(x, x.above(0, 8, 200), -2, 2);
        due(x, x.above(0, 8, 254), -2, 2);
        due(x, x.above(2, 2, -1), -2, 2);
        due(x, x.above(0, 8, 255), -1, 2);
        due(x, x.above(0, 8, -2), -1, 2);
        due(x, x.above(0, 8, HIGH), -1, 2);
        due(x, x.above(8, 0, 5), -1, 2);
        x.adds(255);
        due(x, x.above(0, 9, 254), 255, 1);
    }

    private static void sums() {
        promise(22);
        PlaneColumn x = of(EIGHT);
        due(x, x.sums(0, 8, 0), 0, 0);
        due(x, x.sums(0, 8, 3), 10, 530);
        due(x, x.sums(0, 8, 8), 611, 611);
        due(x, x.sums(3, 6, 2), 137, 330);
        due(x, x.sums(3, 3, 0), 0, 0);
        due(x, x.sums(0, 8, 9), -2, 0);
        due(x, x.sums(0, 8, HIGH), -2, 0);
        due(x, x.sums(0, 8, -1), -1, 0);
        due(x, x.sums(-1, 8, 1), -1, 0);
    }

    private static void often() {
        promise(23);
        PlaneColumn x = of(EIGHT);
        // Two and more: LEVEL 0; 0.., 128..; 0.., 192..; then 0, 5, 5, 7 and 200, 200 as far as they go together.
        due(x, x.often(0, 8, 2), 2, 1 + 2 + 2 + 2 + 2 + 2 + 2 + 2 + 2, 5, 2, 200, 2);
        due(x, x.often(1, 3, 2), 1, 9, 5, 2);
        due(x, x.often(1, 3, 3), 0, 0);
        due(x, x.often(1, 1, 1), 0, 0);
        due(x, x.often(0, 1, 1), 1, 9, 200, 1);
        due(x, x.often(0, 8, 0), -1, 9, 200, 1);
        due(x, x.often(0, 8, 65), -1, 9, 200, 1);
        due(x, x.often(0, 9, 1), -1, 9, 200, 1);
        PlaneColumn many = of("17,16,15,14,13,12,11,10,9,8,7,6,5,4,3,2,1,0");
        due(many.often(0, 18, 1), 18);
        due(many.count(2), 33);
        due(many.row(0), 1 + 1 + 1 + 1 + 2 + 3 + 5 + 9 + 18);
        due(many.row(1), 0);
        due(many.row(31), 15);
        due(many.row(32), 1);
        PlaneColumn full = of("9x64");
        due(full, full.often(0, 64, 64), 1, 9, 9, 64);
    }

    private static void mode() {
        promise(24);
        PlaneColumn x = of(EIGHT);
        due(x, x.mode(0, 8), 5, 2);
        due(x, x.mode(2, 8), 0, 1);
        due(x, x.mode(2, 7), 5, 1);
        due(x, x.mode(0, 1), 200, 1);
        due(x, x.mode(4, 4), -2, 1);
        due(x, x.mode(5, 4), -1, 1);
        due(x, x.mode(0, 9), -1, 1);
        PlaneColumn zeros = of("0x5,255x6");
        due(zeros, zeros.mode(0, 10), 0, 5);
        due(zeros, zeros.mode(0, 11), 255, 6);
    }

    private static void across() {
        promise(25);
        PlaneColumn x = of(FOUR);
        due(x, x.across(0, 4, 255, 0), 252, 3);
        due(x, x.across(0, 4, 255, 1), 253, 2);
        due(x, x.across(0, 4, 255, 2), 254, 1);
        due(x, x.across(0, 4, 255, 3), 254, 1);
        due(x, x.across(0, 4, 0, 0), 1, 1);
        due(x, x.across(0, 3, 2, 0), 0, 2);
        due(x, x.across(0, 4, 255, 4), -2, 2);
        due(x, x.across(1, 1, 0, 0), -2, 2);
        due(x, x.across(0, 4, 256, 0), -1, 2);
        due(x, x.across(0, 4, -1, 9), -1, 2);
        due(x, x.across(0, 4, 0, -1), -1, 2);
        due(x, x.across(0, 5, 0, 0), -1, 2);
    }

    private static void turned() {
        promise(26);
        PlaneColumn x = of(EIGHT);
        // 200: 6; 5: 1; 5: 1; 130: 3; 7: 1; 200: 2; 64: 1.
        due(x, x.turned(0, 8), 15, 2);
        due(x, x.turned(1, 3), 0, 1);
        due(x, x.turned(3, 5), 1, 0);
        due(x, x.turned(3, 3), 0, 0);
        due(x, x.turned(3, 2), -1, 0);
        due(x, x.turned(0, 9), -1, 0);
    }

    private static void spread() {
        promise(27);
        PlaneColumn x = of(EIGHT);
        due(x, x.spread(0, 8, 1), 2, 5, 3);
        due(x, x.spread(0, 8, 2), 4, 4, 1, 1, 2);
        due(x, x.spread(0, 8, 3), 4, 4, 0, 1, 0, 1, 0, 2, 0);
        due(x, x.spread(0, 8, 4), 4, 4, 0, 0, 0, 1, 0, 0, 0, 1, 0, 0, 0, 2, 0, 0, 0);
        due(x, x.spread(2, 2, 1), 0, 0, 0);
        due(x, x.spread(0, 8, 0), -1, 0, 0);
        due(x, x.spread(0, 8, 5), -1, 0, 0);
        due(x, x.spread(0, 8, HIGH), -1, 0, 0);
        due(x, x.spread(9, 9, 1), -1, 0, 0);
    }

    private static void nearest() {
        promise(28);
        PlaneColumn x = of(EIGHT);
        due(x, x.nearest(0, 8), 0, 5, 5);
        due(x, x.nearest(2, 8), 2, 5, 7);
        due(x, x.nearest(6, 8), 64, 0, 64);
        due(x, x.nearest(6, 7), -2, 0, 64);
        due(x, x.nearest(6, 6), -2, 0, 64);
        due(x, x.nearest(6, 9), -1, 0, 64);
        PlaneColumn y = of("131,130,9,8,40,8");
        due(y, y.nearest(0, 5), 1, 8, 9);
        due(y, y.nearest(0, 6), 0, 8, 8);
        due(y, y.nearest(0, 3), 1, 130, 131);
        PlaneColumn steps = of("127,128,64");
        due(steps, steps.nearest(0, 3), 63, 64, 127);
    }

    private static void dense() {
        promise(29);
        PlaneColumn x = of(EIGHT);
        due(x, x.dense(0, 8, 0), 2, 5);
        due(x, x.dense(0, 8, 2), 3, 5);
        due(x, x.dense(0, 8, 7), 4, 0);
        due(x, x.dense(0, 8, 255), 8, 0);
        due(x, x.dense(0, 2, 10), 1, 5);
        due(x, x.dense(0, 2, 195), 2, 5);
        due(x, x.dense(0, 2, 194), 1, 5);
        due(x, x.dense(3, 3, 5), 0, -1);
        due(x, x.dense(0, 8, 256), -1, -1);
        due(x, x.dense(0, 8, -1), -1, -1);
        due(x, x.dense(0, 9, 1), -1, -1);
    }

    private static void farthest() {
        promise(30);
        PlaneColumn x = of(EIGHT);
        due(x, x.farthest(0, 8, 0), 200, 200, 2);
        due(x, x.farthest(0, 8, 255), 255, 0, 1);
        due(x, x.farthest(0, 8, 200), 207, 7, 1);
        due(x, x.farthest(0, 4, 200), 205, 5, 2);
        due(x, x.farthest(3, 3, 0), -2, 5, 2);
        due(x, x.farthest(3, 3, 256), -1, 5, 2);
        due(x, x.farthest(0, 8, -1), -1, 5, 2);
        due(x, x.farthest(0, 9, 1), -1, 5, 2);
    }

    private static void fit() {
        promise(31);
        PlaneColumn x = of(EIGHT);
        due(x, x.fit(0, 8, 0), 1, 0);
        due(x, x.fit(0, 8, 9), 2, 5);
        due(x, x.fit(0, 8, 10), 3, 10);
        due(x, x.fit(0, 8, 610), 7, 411);
        due(x, x.fit(0, 8, 611), 8, 611);
        due(x, x.fit(0, 8, HIGH), 8, 611);
        due(x, x.fit(0, 1, 199), 0, 0);
        due(x, x.fit(3, 3, 9), 0, 0);
        due(x, x.fit(0, 8, -1), -1, 0);
        due(x, x.fit(0, 9, 1), -1, 0);
    }

    private static void gap() {
        promise(32);
        PlaneColumn x = of(EIGHT);
        due(x, x.gap(0, 8), 70, 130, 200);
        due(x, x.gap(1, 3), 0, 5, 5);
        due(x, x.gap(1, 5), 123, 7, 130);
        due(x, x.gap(1, 2), -2, 7, 130);
        due(x, x.gap(1, 1), -2, 7, 130);
        due(x, x.gap(2, 1), -1, 7, 130);
        PlaneColumn steps = of("9,7,5,3");
        due(steps, steps.gap(0, 4), 2, 3, 5);
    }

    private static void narrow() {
        promise(33);
        PlaneColumn x = of("1,2,1,1,2,1,1,3");
        due(x, x.narrow(1, 1), 1, 0, 1, 5);
        due(x, x.narrow(1, 2), 2, 2, 4, 2);
        due(x, x.narrow(1, 3), 4, 0, 4, 3);
        due(x, x.narrow(1, 5), 7, 0, 7, 1);
        due(x, x.narrow(2, 2), 4, 1, 5, 1);
        due(x, x.narrow(3, 1), 1, 7, 8, 1);
        due(x, x.narrow(3, 2), -2, 7, 8, 1);
        due(x, x.narrow(1, 6), -2, 7, 8, 1);
        due(x, x.narrow(9, 1), -2, 7, 8, 1);
        due(x, x.narrow(1, 64), -2, 7, 8, 1);
        due(x, x.narrow(1, 65), -1, 7, 8, 1);
        due(x, x.narrow(1, 0), -1, 7, 8, 1);
        due(x, x.narrow(256, 1), -1, 7, 8, 1);
        due(x, x.narrow(-1, 1), -1, 7, 8, 1);
        PlaneColumn full = of("9x64");
        due(full, full.narrow(9, 64), 64, 0, 64, 1);
        due(full, full.narrow(9, 60), 60, 0, 60, 5);
    }

    private static void lone() {
        promise(34);
        PlaneColumn x = of(EIGHT);
        due(x, x.lone(0, 8), 4, 0, 130);
        due(x, x.lone(1, 6), 3, 7, 200);
        due(x, x.lone(0, 1), 1, 200, 200);
        due(x, x.lone(1, 3), 0, -1, -1);
        due(x, x.lone(1, 1), 0, -1, -1);
        due(x, x.lone(1, 9), -1, -1, -1);
        due(x, x.lone(3, 2), -1, -1, -1);
    }

    private static void rises() {
        promise(35);
        PlaneColumn x = of(EIGHT);
        // 5 (twice), 130 or 7, 200.
        due(x, x.rises(0, 8), 3, 64, 2 * 2 + 2);
        due(x, x.rises(0, 3), 1, 5, 3);
        due(x, x.rises(1, 3), 1, 5, 2);
        due(x, x.rises(4, 4), 0, -1, 0);
        due(x, x.rises(5, 4), -1, -1, 0);
        due(x, x.rises(0, 9), -1, -1, 0);
        // Twenty-one steps of three like numbers: 3 to the 21 ways.
        PlaneColumn wide = new PlaneColumn();
        for (int i = 0; i < 63; i++) {
            wide.adds(i / 3);
        }
        due(wide, wide.rises(0, 63), 21, 20, 1000000000);
        due(wide, wide.rises(0, 54), 18, 17, 387420489);
        PlaneColumn rising = new PlaneColumn();
        for (int i = 0; i < 64; i++) {
            rising.adds(i);
        }
        due(rising, rising.rises(0, 64), 64, 63, 1);
        // 10 to the 9 ways just so: nine steps of five, nine of two, with one number a step.
        PlaneColumn exact = new PlaneColumn();
        for (int i = 0; i < 9; i++) {
            for (int k = 0; k < 7; k++) {
                exact.adds(k < 5 ? 2 * i : 2 * i + 1);
            }
        }
        due(exact, exact.rises(0, 63), 18, 17, 1000000000);
        exact.cuts(62);
        due(exact, exact.rises(0, 62), 18, 17, 500000000);
    }

    private static void marks() {
        promise(36);
        PlaneColumn x = of(EIGHT);
        due(x, x.marks(0, 8, 5), 2, 1, 2);
        due(x, x.marks(2, 8, 5), 1, 2);
        due(x, x.marks(0, 8, 9), 0);
        due(x, x.marks(0, 8, 200), 2, 0, 5);
        due(x, x.marks(0, 8, 256), -1, 0, 5);
        due(x, x.marks(0, 8, -1), -1, 0, 5);
        due(x, x.marks(0, 9, 5), -1, 0, 5);
        due(x, x.marks(4, 4, 5), 0);
        PlaneColumn many = of("8,9x40");
        due(many.marks(0, 41, 9), 40);
        due(many.count(2), 32);
        due(many.row(0), 1);
        due(many.row(31), 32);
    }

    // ---- two spans

    private static void common() {
        promise(37);
        PlaneColumn x = of(EIGHT);
        // 200, 5 and 5, 130, 7, 200: both go down to 5 and 200; 4 .. 7 have nothing else in common.
        due(x, x.common(0, 2, 2, 6), 2, 1 + 2 * 8, 5, 1, 1, 200, 1, 1);
        due(x, x.common(0, 3, 0, 3), 2, 17, 5, 2, 2, 200, 1, 1);
        due(x, x.common(0, 1, 7, 8), 0, 1);
        due(x, x.common(0, 1, 8, 8), 0, 0);
        due(x, x.common(0, 9, 0, 1), -1, 0);
        due(x, x.common(0, 1, 1, 0), -1, 0);
        PlaneColumn many = of("17,16,15,14,13,12,11,10,9,8,7,6,5,4,3,2,1,0");
        due(many.common(0, 18, 0, 18), 18);
        due(many.count(2), 49);
        due(many.row(46), 15);
        due(many.row(48), 1);
    }

    private static void lacking() {
        promise(38);
        PlaneColumn x = of(EIGHT);
        due(x, x.lacking(0, 6, 4, 8), 2, 5, 2, 130, 1);
        due(x, x.lacking(4, 8, 0, 6), 2, 0, 1, 64, 1);
        due(x, x.lacking(0, 8, 0, 8), 0);
        due(x, x.lacking(0, 3, 4, 4), 2, 5, 2, 200, 1);
        due(x, x.lacking(4, 4, 0, 3), 0);
        x.level(0);
        due(x, x.lacking(0, 9, 0, 8), -1, 41, 6);
        due(x, x.lacking(0, 8, 0, 9), -1, 41, 6);
        PlaneColumn many = of("17,16,15,14,13,12,11,10,9,8,7,6,5,4,3,2,1,0");
        due(many.lacking(0, 18, 0, 0), 18);
        due(many.count(2), 32);
        due(many.row(30), 15);
    }

    private static void both() {
        promise(39);
        PlaneColumn x = of(EIGHT);
        due(x, x.both(0, 3, 2, 5, 0), 5, 2, 1);
        due(x, x.both(0, 3, 2, 5, 2), 5, 2, 1);
        due(x, x.both(0, 3, 2, 5, 3), 7, 0, 1);
        due(x, x.both(0, 3, 2, 5, 5), 200, 1, 0);
        due(x, x.both(0, 8, 0, 8, 15), 200, 2, 2);
        due(x, x.both(0, 8, 0, 8, 16), -2, 2, 2);
        due(x, x.both(0, 0, 8, 8, 0), -2, 2, 2);
        due(x, x.both(0, 8, 0, 8, -1), -1, 2, 2);
        due(x, x.both(0, 8, 0, 9, 99), -1, 2, 2);
        due(x, x.both(1, 0, 0, 8, 0), -1, 2, 2);
    }

    private static void same() {
        promise(40);
        PlaneColumn x = of("3,1,2,1,2,3,1,1,1");
        due(x, x.same(0, 4, 3, 7), 1, -1, 0, 0);
        due(x, x.same(0, 4, 4, 8), 1, -1, 0, 0);
        due(x, x.same(0, 4, 5, 9), 0, 1, 1, 1);
        due(x, x.same(0, 3, 6, 9), 0, 1, 2, 2);
        due(x, x.same(0, 6, 0, 2), 0, 1, 4, 0);
        due(x, x.same(0, 1, 0, 3), 0, 1, 0, 2);
        due(x, x.same(2, 2, 5, 5), 1, -1, 0, 0);
        due(x, x.same(0, 10, 0, 1), -1, -1, 0, 0);
        due(x, x.same(0, 1, -1, 1), -1, -1, 0, 0);
    }

    private static void count() {
        promise(41);
        PlaneColumn x = of(EIGHT);
        x.runs();
        x.sign(0);
        x.end(3);
        due(x.count(0), 8);
        due(x.count(1), 3);
        due(x.count(2), 8);
        due(x.count(3), 6);
        due(x.count(4), 611);
        due(x.count(5), 3 + 2 + 2 + 2 + 3 + 3 + 1);
        due(x.count(6), -1);
        due(x.count(-1), -1);
        due(x.count(LOW), -1);
        PlaneColumn full = of("255x64");
        due(full.count(3), 1);
        due(full.count(4), 16320);
        due(full.count(5), 512);
    }

    private static void row() {
        promise(42);
        PlaneColumn x = of(EIGHT);
        dueThrows(x, 0);
        x.level(0);
        due(x.row(0), 41);
        due(x.row(1), 6);
        dueThrows(x, 2);
        dueThrows(x, -1);
        dueThrows(x, LOW);
        dueThrows(x, HIGH);
        x.marks(0, 8, 9);
        dueThrows(x, 0);
    }

    /** The ROW stays with calls that tell none, and with answers below 0. */
    private static void refusals() {
        promise(0);
        PlaneColumn x = of(EIGHT);
        x.level(0);
        x.adds(9);
        x.cuts(8);
        x.swaps(0, 1);
        x.swaps(0, 1);
        x.reverses(0, 2);
        x.reverses(0, 2);
        x.rank(5, 8);
        x.select(5, 0);
        x.sign('7' << 24);
        x.end(1);
        x.column();
        x.planes();
        x.count(0);
        dueRow(x, 41, 6);
        dueNumbers(x, 7);
        // Refused calls that do not read THE TEXT leave it.
        x.sign('7' << 24);
        x.adds(-1);
        x.kth(0, 9, 0);
        due(x.count(1), 4);
    }
}
