import java.util.NoSuchElementException;

/**
 * Calls that throw an exception: it is the one that is listed first of those that apply, and the
 * book answers behind it what it answers without the call (but for the ring, and the text of
 * doLine()). Likewise for calls that only ask.
 */
public final class RefusedTest {
    private static final Class<IndexOutOfBoundsException> NO_INDEX = IndexOutOfBoundsException.class;
    private static final Class<IllegalArgumentException> BAD_NUMBER = IllegalArgumentException.class;
    private static final Class<IllegalStateException> BAD_STATE = IllegalStateException.class;
    private static final Class<NoSuchElementException> NOT_THERE = NoSuchElementException.class;

    private static final Books.Maker EMPTY = GlacierBook::new;
    private static final Books.Maker RICH = Books::rich;
    private static final Books.Maker FULL = Books::full;
    private static final Books.Maker RICH_UNTYPED = Books::richWithoutText;
    private static final Books.Maker FULL_UNTYPED = Books::fullWithoutText;

    public static void main(String[] args) {
        ages();
        ring();
        layers();
        bands();
        dates();
        stakes();
        ice();
        text();
        lines();
        undo();
        asked();
        Expect.end("RefusedTest");
    }

    private static void refused(Books.Maker made, Class<? extends RuntimeException> due, String... calls) {
        for (String told : calls) {
            Expect.raises(told, due, () -> Books.call(made.make(), told));
            Books.alike("behind " + told, made.andTry(x -> Books.call(x, told)), made);
        }
    }

    private static void ages() {
        refused(FULL, BAD_STATE, "addLayer()", "least(2, 1, 2)", "most(2, 1, 20)", "least(2, 1, 21)",
                "most(2, 1, 1)", "least(16, 0, 9999)", "most(0, 16, -9999)", "takeBack(40)", "follows(40)");
        refused(FULL, BAD_NUMBER, "least(16, 16, 1)", "most(2, 1, 10000)", "least(2, 1, -10000)", "most(0, 0, 1)",
                "least(2, 1, MIN)");
        refused(FULL, NO_INDEX, "least(17, 16, 1)", "most(0, -1, 10000)", "least(17, 17, 10000)", "takeBack(50)",
                "follows(50)", "low(17, 0)", "high(0, 17)", "ringAt(3)");
        refused(RICH, NO_INDEX, "least(6, 0, 1)", "least(0, 6, 1)", "least(6, 6, MIN)", "most(-1, 0, 1)",
                "most(0, MAX, 1)", "most(MIN, MIN, MAX)", "takeBack(4)", "takeBack(-1)", "follows(4)",
                "follows(-1)", "low(6, 1)", "low(1, -1)", "low(6, 6)", "high(6, 1)", "high(1, -1)", "high(6, 6)",
                "ringAt(3)", "ringAt(-1)");
        refused(RICH, BAD_NUMBER, "least(1, 1, 1)", "least(0, 0, 0)", "least(1, 1, 10000)", "least(2, 0, 10000)",
                "least(2, 0, -10000)", "least(2, 0, MIN)", "most(1, 1, 1)", "most(0, 0, 0)", "most(2, 0, 10000)",
                "most(2, 0, -10000)", "most(2, 0, MIN)");
        refused(RICH, BAD_STATE, "takeBack(2)", "follows(2)");
        refused(RICH, NOT_THERE, "low(2, 0)", "low(3, 0)", "low(0, 3)", "high(3, 0)", "high(0, 2)", "high(4, 5)");
        refused(EMPTY, NO_INDEX, "least(1, 0, 1)", "takeBack(0)", "follows(0)", "low(0, 1)", "high(1, 1)",
                "ringAt(0)", "ringAt(-1)");
        refused(EMPTY, BAD_NUMBER, "least(0, 0, 1)", "most(0, 0, 1)");
    }

    /** A bound that is refused changes the ring, and nothing but the ring. */
    private static void ring() {
        refusedBound("least(1, 0, 501)", -1, 3);
        refusedBound("most(1, 0, 9)", -1, 0);
        refusedBound("least(2, 1, 21)", -1, 1);
        refusedBound("least(2, 0, 521)", -1, 1, 3);
        ring("a book with a ring", RICH.make(), -1, 1, 3);
        ring("no room for a bound", FULL.andTry(x -> x.least(2, 1, 21)).make(), -1, 28, 30);
        ring("a bound that fits", RICH.and("least(1, 0, 500)").make(), -1, 1, 3);
        ring("numbers out of range", RICH.andTry(x -> x.most(1, 0, -10000)).make(), -1, 1, 3);
    }

    private static void refusedBound(String told, int... due) {
        Expect.raises(told, BAD_STATE, () -> Books.call(RICH.make(), told));
        Books.Maker behind = RICH.andTry(x -> Books.call(x, told));
        ring(told, behind.make(), due);
        Books.alike("behind " + told, behind, RICH, Books.RING);
        String line = told.replace("(", " ").replace(",", "").replace(")", "");
        Books.Maker typed = RICH_UNTYPED.andTry(x -> {
            Books.type(x, line);
            return x.fault();
        });
        Expect.raises("doLine() of " + line, BAD_STATE, () -> typed.make().doLine());
        behind = typed.andTry(GlacierBook::doLine);
        ring(line, behind.make(), due);
        Books.alike("behind " + line, behind, RICH_UNTYPED, Books.RING);
    }

    private static void ring(String what, GlacierBook x, int... due) {
        Expect.is(what + ": ringLength()", x.ringLength(), due.length);
        for (int i = 0; i < due.length && i < x.ringLength(); i++) {
            Expect.is(what + ": ringAt(" + i + ")", x.ringAt(i), due[i]);
        }
    }

    private static void layers() {
        refused(RICH, NO_INDEX, "layOn(0, 1)", "layOn(1, 0)", "layOn(6, 1)", "layOn(1, 6)", "layOn(6, 6)",
                "layOn(0, 0)", "layOn(MIN, MIN)", "takeOff(0, 1)", "takeOff(1, 6)", "takeOff(0, 0)",
                "takeOff(6, 6)", "isAbove(0, 1)", "isAbove(1, 6)", "isAbove(6, 6)", "lineAt(-1)", "lineAt(3)",
                "orderAt(-1)", "orderAt(5)", "phase(0)", "phase(6)");
        refused(RICH, BAD_NUMBER, "layOn(1, 1)", "layOn(5, 5)");
        refused(RICH, BAD_STATE, "layOn(2, 1)", "layOn(3, 1)", "layOn(4, 1)", "layOn(4, 2)");
        refused(RICH, NOT_THERE, "takeOff(2, 1)", "takeOff(1, 1)", "takeOff(1, 5)", "takeOff(2, 3)");
        refused(FULL, NO_INDEX, "layOn(17, 16)", "layOn(16, 0)", "takeOff(17, 16)", "takeOff(0, 1)",
                "lineAt(15)", "orderAt(16)", "phase(17)");
        refused(FULL, BAD_NUMBER, "layOn(16, 16)");
        refused(FULL, BAD_STATE, "layOn(16, 1)", "layOn(16, 15)", "orders()");
        refused(FULL, NOT_THERE, "takeOff(1, 16)", "takeOff(1, 3)", "takeOff(16, 15)");
        refused(EMPTY, NO_INDEX, "layOn(1, 1)", "layOn(0, 0)", "takeOff(1, 1)", "isAbove(1, 1)", "lineAt(0)",
                "orderAt(0)", "phase(1)");
    }

    private static void bands() {
        refused(RICH, NO_INDEX, "addBand(-1, 1, 1)", "addBand(2, 1, 1)", "addBand(2, 0, 4)", "tie(3, 0)",
                "tie(0, 4)", "tie(1, 4)", "tie(3, 2)", "tie(-1, -1)", "untie(2, 0)", "untie(0, 3)", "untie(1, 4)",
                "untie(-1, -1)", "bandCount(2)", "bandCount(-1)", "partner(2, 0)", "partner(0, 3)",
                "partner(1, -1)", "isSure(3, 0)", "isSure(0, 4)", "isSure(-1, 0)", "isSure(0, -1)");
        refused(RICH, BAD_NUMBER, "addBand(0, 0, 1)", "addBand(1, 10, 1)", "addBand(0, 1, -1)",
                "addBand(1, 1, 4)", "addBand(0, MIN, MAX)", "setPrices(-1, 7, 7)", "setPrices(21, 7, 7)",
                "setPrices(7, -1, 7)", "setPrices(7, 21, 7)", "setPrices(7, 7, -1)", "setPrices(7, 7, 21)");
        refused(RICH, BAD_STATE, "tie(1, 2)", "tie(1, 3)", "tie(1, 0)", "tie(0, 2)", "tie(2, 2)", "tie(0, 3)",
                "tie(2, 0)", "tie(2, 1)");
        refused(RICH, NOT_THERE, "untie(0, 0)", "untie(0, 2)", "untie(1, 0)", "untie(1, 1)", "untie(1, 3)");
        refused(FULL, NO_INDEX, "addBand(2, 0, 4)", "addBand(-1, 1, 1)", "tie(16, 0)", "tie(0, 16)",
                "untie(0, 16)", "untie(1, 16)", "partner(0, 16)", "isSure(16, 16)");
        refused(FULL, BAD_NUMBER, "addBand(0, 0, 0)", "addBand(1, 1, 4)", "addBand(0, 10, -1)");
        refused(FULL, BAD_STATE, "addBand(0, 1, 0)", "addBand(1, 9, 3)", "tie(0, 15)", "tie(15, 0)", "tie(6, 9)",
                "tie(7, 8)", "tie(6, 10)", "tie(8, 8)", "tie(1, 0)");
        refused(FULL, NOT_THERE, "untie(0, 1)", "untie(1, 14)", "untie(1, 7)", "untie(0, 9)");
        refused(EMPTY, NO_INDEX, "tie(0, 0)", "untie(0, 0)", "untie(1, 0)", "partner(0, 0)", "isSure(0, 0)");
    }

    private static void dates() {
        refused(RICH, NO_INDEX, "setDate(2, 0, 1)", "setDate(-1, 0, -1)", "setDate(0, 3, 1)", "setDate(1, 4, 1)",
                "setDate(0, -1, 100000)", "noDate(2, 0)", "noDate(0, 3)", "noDate(1, -1)", "ageOf(2, 0)",
                "ageOf(0, 3)", "ageOf(1, -1)");
        refused(RICH, BAD_NUMBER, "setDate(0, 1, -1)", "setDate(0, 1, 100000)", "setDate(0, 1, MIN)",
                "setDate(0, 1, MAX)", "setDate(1, 3, -1)", "setDate(1, 0, 100000)");
        refused(RICH, BAD_STATE, "setDate(0, 1, 99)", "setDate(0, 1, 202)", "setDate(0, 0, 202)",
                "setDate(0, 2, 99)", "setDate(1, 0, 301)", "setDate(1, 3, 299)");
        refused(RICH, NOT_THERE, "noDate(0, 1)", "noDate(1, 0)", "noDate(1, 3)", "ageOf(1, 0)", "ageOf(1, 1)",
                "ageOf(1, 3)");
        refused(FULL, NO_INDEX, "setDate(0, 16, 1)", "setDate(2, 15, 1)", "noDate(0, 16)", "ageOf(0, 16)");
        refused(FULL, BAD_NUMBER, "setDate(0, 15, 100000)", "setDate(0, 0, -1)");
        refused(FULL, BAD_STATE, "setDate(0, 15, 13999)", "setDate(0, 0, 1001)", "setDate(0, 7, 5999)",
                "setDate(0, 7, 8001)", "setDate(1, 0, 50001)", "setDate(1, 15, 49999)");
        refused(FULL, NOT_THERE, "noDate(1, 7)", "noDate(1, 9)", "ageOf(1, 0)", "ageOf(1, 15)");
        refused(EMPTY, NO_INDEX, "setDate(0, 0, 1)", "setDate(0, 0, -1)", "noDate(1, 0)", "ageOf(0, 0)");
    }

    private static void stakes() {
        for (Books.Maker made : new Books.Maker[] {RICH, FULL, EMPTY}) {
            refused(made, NO_INDEX, "setZone(-1, 1, 1)", "setZone(8, 1, 1)", "setZone(8, 100, 4)",
                    "read(-1, 0, 5)", "read(8, 0, 5)", "read(0, -1, 5)", "read(0, 10, 5)", "read(8, 10, 1000)",
                    "noReading(8, 0)", "noReading(0, 10)", "noReading(-1, 4)", "valueOf(8, 0)", "valueOf(0, -1)",
                    "valueOf(8, 1)", "reason(-1, 0)", "reason(0, 10)", "reason(8, 1)", "balance(10)",
                    "balance(-1)", "partBalance(4, 0)", "partBalance(-1, 1)", "partBalance(0, 10)", "lineOf(10)",
                    "lineOf(-1)", "meanValue(10)", "meanValue(-1)");
            refused(made, BAD_NUMBER, "setZone(1, 0, 1)", "setZone(1, 100, 1)", "setZone(1, 7, -1)",
                    "setZone(1, 7, 4)", "read(3, 4, 1000)", "read(3, 4, -1000)", "read(0, 0, MAX)");
            refused(made, NOT_THERE, "noReading(0, 1)", "noReading(7, 9)", "valueOf(0, 1)", "reason(0, 1)",
                    "balance(1)", "partBalance(0, 1)", "partBalance(3, 1)", "lineOf(1)", "meanValue(1)");
        }
        refused(RICH, NOT_THERE, "noReading(4, 4)", "noReading(3, 5)", "noReading(2, 4)");
    }

    private static void ice() {
        for (Books.Maker made : new Books.Maker[] {RICH, FULL, EMPTY}) {
            refused(made, NO_INDEX, "setCell(-1, 1, 1)", "setCell(12, 1, 1)", "setCell(12, -1, 1000)", "iceOf(-1)",
                    "iceOf(12)");
            refused(made, BAD_NUMBER, "setCell(2, -1, 5)", "setCell(2, 1000, 5)", "setCell(2, 5, -1)",
                    "setCell(2, 5, 1000)", "setCell(2, MIN, 5)", "flow(0, 0, 1, 1)", "flow(51, 0, 1, 1)",
                    "flow(-1, 0, 1, 1)", "flow(3, -1, 1, 1)", "flow(3, 2001, 1, 1)", "flow(3, 0, -1, 1)",
                    "flow(3, 0, 21, 1)", "flow(3, 2000, 1, -1)", "flow(3, 2000, 1, 21)", "flow(MAX, MAX, MAX, MAX)");
        }
    }

    private static void text() {
        refused(RICH, BAD_NUMBER, "type(31)", "type(127)", "type(0x310000000000001f)",
                "type(0x7f20202020202020)", "type(-1)", "type(0x61626300000080)", "type(1)");
        refused(FULL, BAD_NUMBER, "type(31)", "type(0x207f)", "type(0x2020202020202001)", "type(-2)");
        refused(FULL, BAD_STATE, "type(' ')", "type('a')", "type('        ')", "type(0x2000000000000000)");
        Books.Maker text75 = RICH.andTry(x -> {
            x.doLine();
            Books.type(x, "layer".concat(" ".repeat(70)));
            return x.type(0L);
        });
        refused(text75, BAD_STATE, "type('123456')", "type('12345678')", "type('1 1 1 ')");
        refused(text75, BAD_NUMBER, "type(0x3131313131311f)");
        refused(EMPTY, BAD_NUMBER, "type(31)", "type(127)", "type(0x617f)", "type(0x1f61)");
    }

    /** A line that throws changes the text, which is empty then. */
    private static void lines() {
        refusedLines(RICH_UNTYPED, BAD_NUMBER, "", "   ", "x", "layer 1", "on 1", "on 1 2 3",
                "least 1 0 2147483648", "band 0 1", "date 0 0 +", "least 1 1 1", "least 0 0 10000",
                "most 2 0 10000", "most 2 0 -10000", "on 5 5", "band 0 0 0", "band 1 9 4", "date 0 1 -1",
                "date 0 1 100000");
        refusedLines(RICH_UNTYPED, NO_INDEX, "least 6 0 1", "least 6 6 99999", "most 0 -1 1", "on 0 1", "on 6 6",
                "band 2 0 9", "band -1 1 1", "date 2 0 1", "date 0 3 -1", "date 1 4 1");
        refusedLines(RICH_UNTYPED, BAD_STATE, "on 2 1", "on 4 1", "date 0 1 99", "date 0 1 202");
        refusedLines(FULL_UNTYPED, BAD_STATE, "layer", "least 2 1 2", "most 2 1 1", "on 16 1", "band 0 1 0",
                "date 0 0 1001");
        refusedLines(FULL_UNTYPED, BAD_NUMBER, "layer 1", "most 16 16 1", "on 16 16", "band 0 10 0",
                "date 0 15 100000", "17 17 17 17", "on 17 17 1", "band 2 0 9 9", "least 17 17", "date 2 16");
        refusedLines(FULL_UNTYPED, NO_INDEX, "most 17 16 10000", "on 17 17", "band 2 10 4", "date 0 16 100000");
    }

    private static void refusedLines(Books.Maker made, Class<? extends RuntimeException> due, String... lines) {
        for (String line : lines) {
            Books.Maker typed = made.andTry(x -> {
                Books.type(x, line);
                return x.fault();
            });
            Expect.raises("doLine() of '" + line + "'", due, () -> typed.make().doLine());
            Books.alike("behind '" + line + "'", typed.andTry(GlacierBook::doLine), made);
        }
    }

    private static void undo() {
        refused(EMPTY, BAD_STATE, "undo()");
        refused(EMPTY.and("addLayer()", "undo()"), BAD_STATE, "undo()");
        Books.Maker undone = RICH.and("undo()", "undo()", "undo()", "undo()", "undo()", "undo()", "undo()",
                "undo()");
        refused(undone, BAD_STATE, "undo()");
    }

    /** Calls that only ask change nothing, not even what another call has reckoned before. */
    private static void asked() {
        for (Books.Maker made : new Books.Maker[] {RICH, FULL, EMPTY}) {
            for (String told : new String[] {"follows(0)", "follows(3)", "low(1, 0)", "high(1, 0)", "high(0, 0)",
                "ringLength()", "ringAt(0)", "ringAt(1)", "layerCount()", "boundCount()", "isAbove(1, 2)",
                "isAbove(2, 1)", "lineCount()", "lineAt(0)", "orders()", "orderAt(0)", "orderAt(4)", "phase(4)",
                "bandCount(0)", "leastPrice()", "bestWays()", "partner(0, 1)", "partner(1, 2)", "isSure(0, 0)",
                "isSure(1, 2)", "ageOf(0, 0)", "ageOf(0, 1)", "valueOf(4, 4)", "reason(4, 4)", "balance(4)",
                "partBalance(2, 4)", "lineOf(4)", "iceOf(2)", "won()", "type(0)", "fault()", "actCount()",
                "meanValue(4)", "aboveShare()", "errors()"}) {
                Books.alike("behind " + told, made.andTry(x -> Books.call(x, told)), made);
            }
        }
    }
}
