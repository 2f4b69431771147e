/** Each sentence of the document's 'Terms' that names a boundary case, for every call that it binds. */
public final class EdgeTermsTest extends TestBase {
    private interface SpanAsk {
        long of(PlaneColumn x, int l, int r);
    }

    private interface NumberAsk {
        long of(PlaneColumn x, int v);
    }

    /** A call by its name, with one SPAN (or one NUMBER) left open. */
    private record SpanCall(String name, SpanAsk ask, long ofEmpty) { }

    private record NumberCall(String name, NumberAsk ask) { }

    private record Call(String name, Ask ask) { }

    private static final String FOUR = "3,1,2,1";

    private static final SpanCall[] SPAN_CALLS = {
        new SpanCall("reverses", (x, l, r) -> x.reverses(l, r), 0),
        new SpanCall("kth", (x, l, r) -> x.kth(l, r, 0), MISSING),
        new SpanCall("band", (x, l, r) -> x.band(l, r, 0, 255), 0),
        new SpanCall("below", (x, l, r) -> x.below(l, r, 256), MISSING),
        new SpanCall("above", (x, l, r) -> x.above(l, r, -1), MISSING),
        new SpanCall("sums", (x, l, r) -> x.sums(l, r, 0), 0),
        new SpanCall("sums of one", (x, l, r) -> x.sums(l, r, 1), MISSING),
        new SpanCall("often", (x, l, r) -> x.often(l, r, 1), 0),
        new SpanCall("mode", (x, l, r) -> x.mode(l, r), MISSING),
        new SpanCall("across", (x, l, r) -> x.across(l, r, 0, 0), MISSING),
        new SpanCall("turned", (x, l, r) -> x.turned(l, r), 0),
        new SpanCall("spread", (x, l, r) -> x.spread(l, r, 1), 0),
        new SpanCall("nearest", (x, l, r) -> x.nearest(l, r), MISSING),
        new SpanCall("dense", (x, l, r) -> x.dense(l, r, 0), 0),
        new SpanCall("farthest", (x, l, r) -> x.farthest(l, r, 0), MISSING),
        new SpanCall("fit", (x, l, r) -> x.fit(l, r, 0), 0),
        new SpanCall("gap", (x, l, r) -> x.gap(l, r), MISSING),
        new SpanCall("lone", (x, l, r) -> x.lone(l, r), 0),
        new SpanCall("rises", (x, l, r) -> x.rises(l, r), 0),
        new SpanCall("marks", (x, l, r) -> x.marks(l, r, 3), 0),
        new SpanCall("common, the first", (x, l, r) -> x.common(l, r, 0, 2), 0),
        new SpanCall("common, the other", (x, l, r) -> x.common(0, 2, l, r), 0),
        new SpanCall("lacking, the first", (x, l, r) -> x.lacking(l, r, 0, 2), 0),
        new SpanCall("lacking, the other", (x, l, r) -> x.lacking(0, 2, l, r), 2),
        new SpanCall("both, the first", (x, l, r) -> x.both(l, r, 0, 0, 0), MISSING),
        new SpanCall("both, the other", (x, l, r) -> x.both(0, 0, l, r, 0), MISSING),
        new SpanCall("same, the first", (x, l, r) -> x.same(l, r, 0, 0), 1),
        new SpanCall("same, the other", (x, l, r) -> x.same(0, 0, l, r), 1)};

    private static final NumberCall[] NUMBER_CALLS = {
        new NumberCall("adds", (x, v) -> x.adds(v)),
        new NumberCall("puts", (x, v) -> x.puts(1, v)),
        new NumberCall("rank", (x, v) -> x.rank(v, 1)),
        new NumberCall("select", (x, v) -> x.select(v, 0)),
        new NumberCall("band, a", (x, v) -> x.band(0, 4, v, 255)),
        new NumberCall("band, b", (x, v) -> x.band(0, 4, 0, v)),
        new NumberCall("band, both", (x, v) -> x.band(0, 4, v, v)),
        new NumberCall("across", (x, v) -> x.across(0, 4, v, 0)),
        new NumberCall("farthest", (x, v) -> x.farthest(0, 4, v)),
        new NumberCall("narrow", (x, v) -> x.narrow(v, 1)),
        new NumberCall("marks", (x, v) -> x.marks(0, 4, v))};

    /** Questions with an answer, each with another one that is not granted behind it. */
    private static final Call[] QUESTIONS = {
        new Call("level", x -> x.level(6) + x.level(8)), new Call("spot", x -> x.spot(0, 8) + x.spot(4, 0)),
        new Call("from", x -> x.from(8, 0) + x.from(8, 4)), new Call("runs", x -> x.runs()),
        new Call("thrift", x -> x.thrift()), new Call("kth", x -> x.kth(0, 4, 1) + x.kth(0, 4, 4)),
        new Call("rank", x -> x.rank(1, 4) + x.rank(1, 5)), new Call("select", x -> x.select(1, 1) + x.select(1, 2)),
        new Call("band", x -> x.band(0, 4, 1, 2) + x.band(0, 4, 2, 1)),
        new Call("below", x -> x.below(0, 4, 3) + x.below(0, 4, 1)), new Call("above", x -> x.above(0, 4, 1) + x.above(0, 4, 3)),
        new Call("sums", x -> x.sums(0, 4, 2) + x.sums(0, 4, 5)), new Call("often", x -> x.often(0, 4, 2) + x.often(0, 4, 0)),
        new Call("mode", x -> x.mode(0, 4) + x.mode(0, 0)), new Call("across", x -> x.across(0, 4, 3, 1) + x.across(0, 4, 3, 4)),
        new Call("turned", x -> x.turned(0, 4) + x.turned(0, 5)), new Call("spread", x -> x.spread(0, 4, 4) + x.spread(0, 4, 5)),
        new Call("nearest", x -> x.nearest(0, 4) + x.nearest(0, 1)), new Call("dense", x -> x.dense(0, 4, 1) + x.dense(0, 4, 256)),
        new Call("farthest", x -> x.farthest(0, 4, 3) + x.farthest(0, 0, 3)), new Call("fit", x -> x.fit(0, 4, 4) + x.fit(0, 4, -1)),
        new Call("gap", x -> x.gap(0, 4) + x.gap(0, 1)), new Call("narrow", x -> x.narrow(1, 2) + x.narrow(1, 3)),
        new Call("lone", x -> x.lone(0, 4) + x.lone(0, 5)), new Call("rises", x -> x.rises(0, 4) + x.rises(0, 5)),
        new Call("marks", x -> x.marks(0, 4, 1) + x.marks(0, 4, 256)), new Call("common", x -> x.common(0, 2, 2, 4) + x.common(0, 2, 2, 5)),
        new Call("lacking", x -> x.lacking(0, 2, 2, 4) + x.lacking(0, 2, 2, 5)),
        new Call("both", x -> x.both(0, 2, 2, 4, 3) + x.both(0, 2, 2, 4, 4)),
        new Call("same", x -> x.same(0, 2, 2, 4) + x.same(0, 2, 2, 5)), new Call("count", x -> x.count(5) + x.count(6)),
        new Call("row", x -> x.row(0))};

    /** Calls that answer NONE though another answer below 0 would fit as well. */
    private static final Call[] NONE_AHEAD = {
        new Call("puts", x -> x.puts(4, 256)), new Call("puts", x -> x.puts(-1, -1)),
        new Call("spot", x -> x.spot(4, 9)), new Call("spot", x -> x.spot(-1, -1)),
        new Call("from", x -> x.from(9, 4)), new Call("from", x -> x.from(-1, -1)),
        new Call("kth", x -> x.kth(0, 5, 9)), new Call("kth", x -> x.kth(2, 2, -1)),
        new Call("select", x -> x.select(256, 9)), new Call("select", x -> x.select(9, -1)),
        new Call("below", x -> x.below(2, 2, 257)), new Call("below", x -> x.below(2, 2, 0)),
        new Call("above", x -> x.above(2, 2, 255)), new Call("above", x -> x.above(2, 2, -2)),
        new Call("sums", x -> x.sums(3, 2, 9)), new Call("sums", x -> x.sums(2, 2, -1)),
        new Call("mode", x -> x.mode(5, 5)), new Call("mode", x -> x.mode(-1, -1)),
        new Call("across", x -> x.across(2, 2, 256, 0)), new Call("across", x -> x.across(2, 2, 0, -1)),
        new Call("across", x -> x.across(5, 5, 0, 9)), new Call("nearest", x -> x.nearest(5, 5)),
        new Call("nearest", x -> x.nearest(-1, 0)), new Call("nearest", x -> x.nearest(2, 1)),
        new Call("farthest", x -> x.farthest(2, 2, 256)), new Call("farthest", x -> x.farthest(5, 5, 0)),
        new Call("gap", x -> x.gap(5, 5)), new Call("gap", x -> x.gap(-1, 0)), new Call("gap", x -> x.gap(2, 1)),
        new Call("narrow", x -> x.narrow(9, 65)), new Call("narrow", x -> x.narrow(256, 64)),
        new Call("both", x -> x.both(2, 2, 2, 2, -1)), new Call("both", x -> x.both(2, 2, 2, 5, 9)),
        new Call("both", x -> x.both(2, 1, 2, 2, 9))};

    /** Calls that answer -2 or -4 on the four NUMBERS. */
    private static final Call[] BELOW_NONE = {
        new Call("puts", x -> x.puts(4, 0)), new Call("cuts", x -> x.cuts(4)), new Call("swaps", x -> x.swaps(0, 4)),
        new Call("swaps", x -> x.swaps(1, 1)), new Call("spot", x -> x.spot(4, 8)), new Call("from", x -> x.from(8, 4)),
        new Call("kth", x -> x.kth(0, 4, 4)), new Call("select", x -> x.select(1, 2)), new Call("below", x -> x.below(0, 4, 1)),
        new Call("above", x -> x.above(0, 4, 3)), new Call("sums", x -> x.sums(0, 4, 5)), new Call("mode", x -> x.mode(4, 4)),
        new Call("across", x -> x.across(0, 4, 0, 4)), new Call("nearest", x -> x.nearest(0, 1)),
        new Call("farthest", x -> x.farthest(0, 0, 0)), new Call("gap", x -> x.gap(3, 4)), new Call("narrow", x -> x.narrow(1, 3)),
        new Call("both", x -> x.both(0, 4, 0, 4, 8))};

    public static void main(String[] args) {
        theColumn();
        theLevels();
        theSpans();
        theNodes();
        theRow();
        refusedCalls();
        readersOfTheText();
        finish("EdgeTermsTest");
    }

    /** NUMBERS, a ROW and a TEXT, so that it can be seen if one of them goes. */
    private static PlaneColumn filled() {
        PlaneColumn x = of(FOUR);
        x.level(6);
        write(x, "7x3,12");
        return x;
    }

    private static void theColumn() {
        test("term 1: COLUMN: 0 .. 64 NUMBERS: none is a column too", () -> {
            PlaneColumn x = of(FOUR);
            for (int i = 0; i < 4; i++) {
                x.cuts(0);
            }
            due(x.count(0), 0);
            due(x, x.runs(), 0, 0, 0, 0, 0, 0, 0, 0, 0);
            due(x.adds(5), 1);
        });
        test("term 1: COLUMN: 0 .. 64 NUMBERS: 64 by one at a time, not 65", () -> {
            PlaneColumn x = new PlaneColumn();
            for (int i = 1; i <= 64; i++) {
                due(x.adds(255 - i), i);
            }
            due(x.adds(0), -3);
            due(x.count(0), 64);
            due(x.from(0, 63), 63);
            due(x.row(0), 191);
            due(x.from(0, 64), MISSING);
        });
        test("term 1: NUMBERS 0 .. 255: each of them can come and be found", () -> {
            for (int v = 0; v <= 255; v++) {
                PlaneColumn x = with(v);
                due(x, x.from(0, 0), 0, v);
                due(x, x.kth(0, 1, 0), v, 1, 0);
            }
        });
        for (NumberCall call : NUMBER_CALLS) {
            test("terms 1, 2: NUMBERS 0 .. 255; NONE (no such number): " + call.name, () -> {
                int[] none = {-1, 256, -2, 257, -256, 512, LOW, LOW + 1, HIGH, 1 << 8, 1 << 16, 1 << 31};
                for (int v : none) {
                    dueNothingElse(EdgeTermsTest::filled, x -> call.ask.of(x, v), NONE);
                }
                due(call.ask.of(filled(), 0) != NONE, true);
                due(call.ask.of(filled(), 255) != NONE, true);
            });
        }
        test("term 1: (none at first)", () -> {
            PlaneColumn x = new PlaneColumn();
            due(x.count(0), 0);
            due(x.cuts(0), MISSING);
            due(x.mode(0, 0), MISSING);
        });
    }

    private static void theLevels() {
        test("term 1: LEVEL j asks for BIT 7 - j of each NUMBER (bit 7 is worth 128)", () -> {
            for (int j = 0; j < 8; j++) {
                for (int bit = 0; bit < 8; bit++) {
                    PlaneColumn x = with(1 << bit);
                    due(x, x.level(j), bit == 7 - j ? 0 : 1, bit == 7 - j ? 1 : 0, 1);
                }
            }
        });
        test("term 1: LEVEL 0 has them in the order of PLACES", () -> {
            PlaneColumn x = of("128,0,255,127");
            due(x, x.level(0), 2, 1 + 4, 4);
            for (int i = 0; i < 4; i++) {
                due(x.spot(i, 0), i);
            }
        });
        test("term 1: LEVEL j + 1: first those that have 0 in LEVEL j, then those that have 1, in the order in which they stand", () -> {
            PlaneColumn x = of("128,1,129,0");
            int[] inLevel1 = {2, 0, 3, 1};
            int[] inLevel8 = {1, 2, 3, 0};
            for (int i = 0; i < 4; i++) {
                due(x.spot(i, 1), inLevel1[i]);
                due(x.spot(i, 7), inLevel1[i]);
                due(x.spot(i, 8), inLevel8[i]);
            }
        });
        test("term 1: also LEVEL 8, which asks for none", () -> {
            PlaneColumn x = of("1,0");
            due(x, x.spot(0, 8), 1, 1);
            due(x, x.from(8, 1), 0, 1);
            due(x, x.level(8), NONE, 1);
        });
        test("term 1: SPOT: how many are ahead of it there: like ones keep their order, none ahead of the first", () -> {
            PlaneColumn x = of("9x64");
            for (int j = 0; j <= 8; j++) {
                due(x.spot(0, j), 0);
                due(x.spot(63, j), 63);
                due(x.from(j, 63), 63);
            }
        });
        test("term 1: ZEROS of a LEVEL: none, all, of no NUMBERS", () -> {
            PlaneColumn x = of("255x64");
            due(x.level(0), 0);
            columnOf(x, "0x64");
            due(x.level(0), 64);
            columnOf(x, "");
            due(x.level(0), 0);
        });
        test("term 1: RUNS of a LEVEL: as long as can be", () -> {
            PlaneColumn x = new PlaneColumn();
            due(x, x.level(0), 0, 0, 0);
            for (int i = 0; i < 64; i++) {
                x.adds(i % 2 == 0 ? 255 : 0);
                x.level(0);
                due(x.row(1), i + 1);
                x.level(1);
                due(x.row(1), i == 0 ? 1 : 2);
            }
            due(x.level(0), 32);
            due(x.row(0), 0x5555555555555555L);
            due(x.level(1), 32);
            due(x.row(0), 0xFFFFFFFF00000000L);
        });
    }

    private static void theSpans() {
        for (SpanCall call : SPAN_CALLS) {
            test("term 1: SPAN l, r: 0 <= l: " + call.name, () -> {
                dueNoSpan(call, -1, 0);
                dueNoSpan(call, -1, 4);
                dueNoSpan(call, -1, -1);
                dueNoSpan(call, LOW, 4);
                dueNoSpan(call, LOW, LOW);
            });
            test("term 1: SPAN l, r: l <= r: " + call.name, () -> {
                dueNoSpan(call, 1, 0);
                dueNoSpan(call, 4, 3);
                dueNoSpan(call, 4, 0);
                dueNoSpan(call, 4, -1);
                dueNoSpan(call, HIGH, LOW);
                dueNoSpan(call, 0, LOW);
            });
            test("term 1: SPAN l, r: r <= how many NUMBERS there are: " + call.name, () -> {
                dueNoSpan(call, 0, 5);
                dueNoSpan(call, 4, 5);
                dueNoSpan(call, 5, 5);
                dueNoSpan(call, 0, 64);
                dueNoSpan(call, 0, HIGH);
                dueNoSpan(call, HIGH, HIGH);
                dueNoSpan(call, LOW, HIGH);
            });
            test("term 1: SPAN l, r: l = r: an empty one: " + call.name, () -> {
                for (int at = 0; at <= 4; at++) {
                    due(call.ask.of(filled(), at, at), call.ofEmpty);
                }
            });
            test("term 1: SPAN l, r: of no NUMBERS the empty one alone: " + call.name, () -> {
                PlaneColumn x = new PlaneColumn();
                if (!call.name.contains("common") && !call.name.contains("lacking")) {
                    due(call.ask.of(x, 0, 0), call.ofEmpty);
                }
                due(call.ask.of(x, 0, 1), NONE);
                due(call.ask.of(x, 1, 1), NONE);
                due(call.ask.of(x, -1, 0), NONE);
            });
            test("term 1: SPAN l, r: all PLACES, the first alone, the last alone: " + call.name, () -> {
                due(call.ask.of(filled(), 0, 4) != NONE, true);
                due(call.ask.of(filled(), 0, 1) != NONE, true);
                due(call.ask.of(filled(), 3, 4) != NONE, true);
                PlaneColumn full = of("9x64");
                due(call.ask.of(full, 0, 64) != NONE, true);
                due(call.ask.of(full, 0, 65), NONE);
            });
        }
        test("term 1: SPAN l, r: PLACES l .. r less 1: that at r is not in it, that at l is", () -> {
            PlaneColumn x = of("9,8,7,6");
            due(x, x.kth(1, 3, 0), 7, 1, 2);
            due(x, x.kth(1, 3, 1), 8, 1, 1);
            due(x, x.sums(1, 3, 2), 15, 15);
            due(x, x.marks(1, 3, 6), 0);
            due(x, x.marks(1, 3, 9), 0);
        });
        test("term 1: SPAN: a NUMBER that came or went moves its end", () -> {
            PlaneColumn x = of(FOUR);
            due(x.mode(5, 5), NONE);
            x.adds(9);
            due(x.mode(4, 5), 9);
            due(x.mode(5, 5), MISSING);
            x.cuts(0);
            due(x.mode(4, 5), NONE);
            due(x.mode(4, 4), MISSING);
        });
    }

    private static void dueNoSpan(SpanCall call, int l, int r) {
        dueNothingElse(EdgeTermsTest::filled, x -> call.ask.of(x, l, r), NONE);
    }

    private static void theNodes() {
        test("term 1: NODE of LEVEL j (0 .. 8): nine on the way to one NUMBER", () -> {
            for (int v = 0; v <= 255; v++) {
                PlaneColumn x = with(v);
                due(x, x.often(0, 1, 1), 1, 9, v, 1);
                due(x, x.common(0, 1, 0, 1), 1, 9, v, 1, 1);
                due(x, x.band(0, 1, v, v), 1, 9);
            }
        });
        test("term 1: It COVERS all NUMBERS 0 .. 255 with these bits: that of LEVEL 0 all", () -> {
            PlaneColumn x = of("0,255");
            due(x, x.band(0, 2, 0, 255), 2, 1);
            due(x, x.band(0, 2, 0, 254), 1, 1 + 2 + 6);
            due(x, x.band(0, 2, 1, 255), 1, 1 + 2 + 6);
        });
        test("term 1: a NODE without NUMBERS of the SPAN is never VISITED: that of LEVEL 0 neither", () -> {
            PlaneColumn x = of(FOUR);
            due(x, x.band(2, 2, 0, 255), 0, 0);
            due(x, x.often(2, 2, 1), 0, 0);
            due(x, x.common(2, 2, 0, 4), 0, 0);
            due(x, x.common(0, 4, 2, 2), 0, 0);
        });
        test("term 1: a NODE without NUMBERS of the SPAN is never VISITED: others of the COLUMN do not count", () -> {
            PlaneColumn x = of("0,255,128");
            due(x, x.band(0, 1, 0, 127), 1, 2);
            due(x, x.band(1, 3, 0, 127), 0, 1);
            due(x, x.often(1, 2, 1), 1, 9, 255, 1);
        });
    }

    private static void theRow() {
        test("term 2: ROW: none is told at first", () -> {
            PlaneColumn x = new PlaneColumn();
            due(x.count(2), 0);
            dueThrows(x, 0);
        });
        test("term 2: ROW: numbers told last: a shorter one takes the place of a longer one", () -> {
            PlaneColumn x = of(FOUR);
            x.runs();
            due(x.count(2), 8);
            due(x, x.mode(0, 4), 1, 2);
            dueThrows(x, 1);
            due(x, x.marks(0, 4, 9), 0);
            dueThrows(x, 0);
        });
        Call[] silent = {new Call("column", x -> x.column()), new Call("planes", x -> planesOf(x, "0/0/0/0/0/0/0/1")),
            new Call("adds", x -> x.adds(0)), new Call("cuts", x -> x.cuts(0)), new Call("swaps", x -> x.swaps(0, 1)),
            new Call("reverses", x -> x.reverses(0, 4)), new Call("sign", x -> x.sign(0)),
            new Call("end", x -> x.end(0) ? 1 : 0), new Call("rank", x -> x.rank(1, 4)), new Call("select", x -> x.select(1, 0)),
            new Call("count", x -> x.count(4)), new Call("row", x -> x.row(0))};
        for (Call call : silent) {
            test("term 2: ROW: told by a call that says so: not by " + call.name, () -> {
                PlaneColumn x = filled();
                due(call.ask.of(x) >= 0, true);
                dueRow(x, 5, 4);
            });
        }
        for (Call call : QUESTIONS) {
            test("term 2: Questions change nothing but the ROW: " + call.name, () -> {
                PlaneColumn x = filled();
                call.ask.of(x);
                due(seenButRow(x), seenButRow(filled()));
            });
        }
    }

    private static void refusedCalls() {
        for (Call call : NONE_AHEAD) {
            test("term 2: NONE comes ahead of other answers below 0: " + call.name, () ->
                dueNothingElse(EdgeTermsTest::filled, call.ask, NONE));
        }
        test("term 2: NONE comes ahead of other answers below 0: adds in a full COLUMN", () -> {
            Maker full = () -> {
                PlaneColumn x = of("9x64");
                x.level(0);
                return x;
            };
            dueNothingElse(full, x -> x.adds(256), NONE);
            dueNothingElse(full, x -> x.adds(-1), NONE);
            dueNothingElse(full, x -> x.adds(9), -3);
        });
        for (Call call : BELOW_NONE) {
            test("term 2: the ROW stays with each answer below 0, and all else: " + call.name, () ->
                dueNothingElse(EdgeTermsTest::filled, call.ask, MISSING));
        }
        test("term 2: the ROW stays with each answer below 0: -4 of puts", () ->
            dueNothingElse(EdgeTermsTest::filled, x -> x.puts(0, 3), -4));
        Call[] refused = {new Call("sign", x -> x.sign('9' << 24)), new Call("level", x -> x.level(8)),
            new Call("often", x -> x.often(0, 4, 0)), new Call("spread", x -> x.spread(0, 4, 0)),
            new Call("dense", x -> x.dense(0, 4, -1)), new Call("fit", x -> x.fit(0, 4, -1)), new Call("rank", x -> x.rank(0, 5)),
            new Call("count", x -> x.count(6)), new Call("band", x -> x.band(0, 4, 1, 0))};
        Maker longText = () -> {
            PlaneColumn x = filled();
            write(x, "1x2," + "3,".repeat(46) + "255x");
            return x;
        };
        for (Call call : refused) {
            test("term 2: Refused calls answer NONE and change nothing: " + call.name, () ->
                dueNothingElse(longText, call.ask, NONE));
        }
        test("term 2: Refused calls: row throws, and changes nothing", () -> {
            PlaneColumn x = filled();
            dueThrows(x, 2);
            dueThrows(x, -1);
            due(seen(x), seen(filled()));
        });
        test("term 2: Refused calls: end that answers false changes nothing", () -> {
            dueNothingElse(EdgeTermsTest::filled, x -> x.end(7) ? 1 : 0, 0);
            dueNothingElse(EdgeTermsTest::filled, x -> x.end(-1) ? 1 : 0, 0);
        });
    }

    private static void readersOfTheText() {
        test("term 2: THE TEXT, which a call that reads it empties: column that is granted", () -> {
            PlaneColumn x = filled();
            due(x.column(), 4);
            due(x.count(1), 0);
            due(x.sign('5' << 24), 4);
        });
        test("term 2: THE TEXT, which a call that reads it empties: planes that is granted", () -> {
            PlaneColumn x = filled();
            due(planesOf(x, "1/0/0/0/0/0/0/0"), 1);
            due(x.count(1), 0);
        });
        test("term 2: Refused calls change nothing but THE TEXT, which a call that reads it empties: column", () -> {
            PlaneColumn x = filled();
            due(columnOf(x, "7x3,12,"), -1 - 7);
            due(x.count(1), 0);
            due(x.end(1), false);
            PlaneColumn y = filled();
            y.end(0);
            due(seen(x), seen(y));
        });
        test("term 2: Refused calls change nothing but THE TEXT, which a call that reads it empties: planes", () -> {
            PlaneColumn x = filled();
            due(x.planes(), -1);
            due(x.count(1), 0);
            PlaneColumn y = filled();
            y.end(0);
            due(seen(x), seen(y));
        });
        test("What it is: An object is used for at most 512 calls: the 512th is answered as the first", () -> {
            PlaneColumn x = rising(100, 64);
            for (int call = 65; call <= 510; call++) {
                due(x.swaps(0, 63) > 0, true);
            }
            due(x.kth(0, 64, 63), 163);
            due(x.row(1), 63);
        });
    }
}
