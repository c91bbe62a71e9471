import java.util.List;

/**
 * The edges of each number that a call takes: the last one that is allowed and the first one that is
 * not, on either side, and numbers that would be allowed if they wrapped around. What is told for an
 * edge (nothing there yet, no room left, the 512th call) stands behind them.
 */
public final class EdgesTest {
    private static final Class<IndexOutOfBoundsException> NO_INDEX = IndexOutOfBoundsException.class;
    private static final Class<IllegalArgumentException> BAD_NUMBER = IllegalArgumentException.class;
    private static final int LEAST_INT = Integer.MIN_VALUE;
    private static final int GREATEST_INT = Integer.MAX_VALUE;

    private static final Books.Maker LOOSE = () -> Books.layers(5);
    private static final Books.Maker BOUND = LOOSE.and("least(1, 0, 1)", "most(1, 0, 2)", "least(5, 1, 1)",
            "most(5, 1, 2)", "least(3, 5, 1)", "most(3, 5, 2)");
    private static final Books.Maker BANDS = () -> BandsTest.withBands("345", "3456");
    private static final Books.Maker TIED = BANDS.and("tie(0, 0)", "tie(2, 3)");
    private static final Books.Maker DATED = BANDS.and("setDate(0, 0, 1)", "setDate(0, 2, 1)",
            "setDate(1, 0, 1)", "setDate(1, 3, 1)");
    private static final Books.Maker READ = () -> {
        GlacierBook x = new GlacierBook();
        for (String told : List.of("read(0, 0, 5)", "read(7, 0, 5)", "read(0, 9, 5)", "read(7, 9, 5)")) {
            Books.call(x, told);
        }
        return x;
    };

    public static void main(String[] args) {
        ages();
        layers();
        bands();
        ties();
        dates();
        stakes();
        ice();
        text();
        nothingThereYet();
        noRoomLeft();
        oneRoomLeft();
        calls512();
        Expect.end("EdgesTest");
    }

    /** The call has # in the place of the number. */
    private static void range(Books.Maker made, String call, int from, int to,
            Class<? extends RuntimeException> wrong) {
        for (int number : new int[] {from, to}) {
            String told = call.replace("#", String.valueOf(number));
            Object got = Books.answer(() -> Books.call(made.make(), told));
            Expect.is(told + " throws", got instanceof Class ? got : "nothing", "nothing");
        }
        int[] outside = {from - 1, to + 1, from - 2, to + 2, LEAST_INT, LEAST_INT + 1, GREATEST_INT,
            from - 256, to + 256, from - 65536, to + 65536, from ^ LEAST_INT, to ^ LEAST_INT};
        for (int number : outside) {
            String told = call.replace("#", String.valueOf(number));
            Expect.raises(told, wrong, () -> Books.call(made.make(), told));
        }
    }

    private static void indices(Books.Maker made, int from, int to, String... calls) {
        for (String call : calls) {
            range(made, call, from, to, NO_INDEX);
        }
    }

    private static void numbers(Books.Maker made, int from, int to, String... calls) {
        for (String call : calls) {
            range(made, call, from, to, BAD_NUMBER);
        }
    }

    private static void ages() {
        indices(LOOSE, 0, 5, "least(#, 3, 7)", "least(3, #, 7)", "most(#, 3, 7)", "most(3, #, 7)");
        indices(Books::full, 0, 16, "low(#, 3)", "low(3, #)", "high(#, 3)", "high(3, #)");
        indices(BOUND, 0, 5, "low(#, 5)", "low(3, #)", "high(#, 5)", "high(3, #)");
        numbers(LOOSE, -9999, 9999, "least(4, 2, #)", "most(4, 2, #)", "least(0, 2, #)", "most(2, 0, #)");
        indices(BOUND, 0, 5, "takeBack(#)", "follows(#)");
        indices(LOOSE.and("most(2, 1, 3)"), 0, 0, "takeBack(#)", "follows(#)");
        indices(Books::full, 0, 49, "takeBack(#)", "follows(#)");
        indices(Books::rich, 0, 2, "ringAt(#)");
    }

    private static void layers() {
        indices(LOOSE, 1, 5, "layOn(#, 3)", "layOn(3, #)", "isAbove(#, 3)", "isAbove(3, #)", "phase(#)");
        indices(LOOSE.and("layOn(1, 3)", "layOn(5, 3)"), 1, 5, "takeOff(#, 3)");
        indices(LOOSE.and("layOn(3, 1)", "layOn(3, 5)"), 1, 5, "takeOff(3, #)");
        indices(LOOSE.and("layOn(3, 1)", "layOn(3, 5)", "layOn(5, 4)", "layOn(3, 4)"), 0, 2, "lineAt(#)");
        indices(LOOSE, 0, 4, "orderAt(#)");
        indices(Books::full, 1, 16, "isAbove(#, 3)", "isAbove(3, #)", "phase(#)");
        indices(Books::full, 0, 15, "orderAt(#)");
        indices(Books::full, 0, 14, "lineAt(#)");
    }

    private static void bands() {
        indices(BANDS, 0, 1, "addBand(#, 5, 2)", "bandCount(#)", "partner(#, 0)");
        numbers(BANDS, 1, 9, "addBand(0, #, 2)", "addBand(1, #, 0)");
        numbers(BANDS, 0, 3, "addBand(0, 5, #)", "addBand(1, 9, #)");
        numbers(BANDS, 0, 20, "setPrices(#, 2, 3)", "setPrices(4, #, 3)", "setPrices(4, 2, #)");
        indices(BANDS, 0, 2, "partner(0, #)", "isSure(#, 3)");
        indices(BANDS, 0, 3, "partner(1, #)", "isSure(2, #)");
        indices(Books::full, 0, 15, "partner(0, #)", "partner(1, #)", "isSure(#, 15)", "isSure(15, #)");
    }

    private static void ties() {
        indices(BANDS, 0, 2, "tie(#, 1)");
        indices(BANDS, 0, 3, "tie(1, #)");
        indices(BANDS.and("tie(1, 1)"), 0, 1, "untie(#, 1)");
        indices(TIED, 0, 2, "untie(0, #)");
        indices(TIED, 0, 3, "untie(1, #)");
        indices(Books::full, 0, 15, "untie(0, #)", "untie(1, #)");
    }

    private static void dates() {
        indices(BANDS, 0, 1, "setDate(#, 1, 5)");
        indices(BANDS, 0, 2, "setDate(0, #, 5)");
        indices(BANDS, 0, 3, "setDate(1, #, 5)");
        numbers(BANDS, 0, 99999, "setDate(0, 1, #)", "setDate(1, 3, #)");
        indices(DATED, 0, 1, "noDate(#, 0)", "ageOf(#, 1)");
        indices(DATED, 0, 2, "noDate(0, #)", "ageOf(0, #)");
        indices(DATED, 0, 3, "noDate(1, #)", "ageOf(1, #)");
        indices(Books::full, 0, 15, "noDate(0, #)", "ageOf(0, #)");
    }

    private static void stakes() {
        indices(READ, 0, 7, "setZone(#, 5, 2)", "read(#, 4, 5)", "noReading(#, 9)", "valueOf(#, 0)",
                "reason(#, 9)");
        indices(READ, 0, 9, "read(4, #, 5)", "noReading(7, #)", "valueOf(4, #)", "reason(4, #)",
                "balance(#)", "partBalance(1, #)", "lineOf(#)", "meanValue(#)");
        indices(READ, 0, 3, "partBalance(#, 9)");
        numbers(READ, 1, 99, "setZone(7, #, 3)");
        numbers(READ, 0, 3, "setZone(7, 1, #)");
        numbers(READ, -999, 999, "read(7, 9, #)");
    }

    private static void ice() {
        indices(GlacierBook::new, 0, 11, "setCell(#, 5, 5)", "iceOf(#)");
        numbers(GlacierBook::new, 0, 999, "setCell(11, #, 5)", "setCell(11, 5, #)");
        numbers(GlacierBook::new, 1, 50, "flow(#, 1, 1, 1)");
        numbers(GlacierBook::new, 0, 2000, "flow(1, #, 1, 1)");
        numbers(GlacierBook::new, 0, 20, "flow(1, 1, #, 1)", "flow(1, 1, 1, #)");
    }

    private static void text() {
        numbers(GlacierBook::new, 32, 126, "type(#)");
    }

    private static void answers(Books.Maker made, Object due, String... calls) {
        for (String told : calls) {
            Expect.is(told, Books.answer(() -> Books.call(made.make(), told)), due);
        }
    }

    /** Each call on a new book. */
    private static void nothingThereYet() {
        Books.Maker made = GlacierBook::new;
        answers(made, 1, "addLayer()");
        answers(made, NO_INDEX, "least(1, 0, 1)", "least(0, 1, 1)", "most(1, 0, 1)", "most(0, 1, 1)",
                "takeBack(0)", "follows(0)", "low(1, 0)", "low(0, 1)", "high(1, 0)", "high(0, 1)", "ringAt(0)",
                "layOn(1, 2)", "layOn(0, 0)", "takeOff(1, 2)", "isAbove(1, 2)", "isAbove(0, 0)", "lineAt(0)",
                "orderAt(0)", "phase(1)", "phase(0)", "tie(0, 0)", "untie(0, 0)", "untie(1, 0)", "partner(0, 0)",
                "partner(1, 0)", "isSure(0, 0)", "setDate(0, 0, 0)", "noDate(1, 0)", "ageOf(0, 0)");
        answers(made, BAD_NUMBER, "least(0, 0, 1)", "most(0, 0, 1)", "doLine()");
        answers(made, 0, "low(0, 0)", "high(0, 0)", "ringLength()", "layerCount()", "boundCount()",
                "lineCount()", "addBand(0, 1, 0)", "addBand(1, 1, 0)", "bandCount(0)", "bandCount(1)",
                "leastPrice()", "setCell(0, 1, 1)", "flow(50, 2000, 20, 20)", "iceOf(0)", "iceOf(11)", "won()",
                "type(0)", "fault()", "actCount()", "errors()");
        answers(made, 1L, "orders()", "bestWays()");
        answers(made, 0, "flow(1, 1, 20, 20)");
        answers(made, 12, "flow(1, 0, 1, 0)");
        answers(made, 9, "setPrices(1, 1, 1)");
        answers(made, 1, "setZone(0, 99, 3)", "setZone(7, 99, 3)", "read(0, 0, 0)");
        answers(made, java.util.NoSuchElementException.class, "noReading(0, 0)", "valueOf(7, 9)",
                "reason(0, 0)", "balance(0)", "partBalance(0, 0)", "partBalance(3, 9)", "lineOf(9)",
                "meanValue(0)");
        answers(made, IllegalStateException.class, "undo()");
        answers(made, 0.0f, "aboveShare()");
    }

    private static void noRoomLeft() {
        Books.Maker made = Books::full;
        answers(made, IllegalStateException.class, "addLayer()", "least(1, 0, -9999)", "most(1, 0, 9999)",
                "addBand(0, 1, 0)", "addBand(1, 9, 3)", "type(' ')", "orders()");
        answers(made, 16, "layerCount()", "bandCount(0)", "bandCount(1)");
        answers(made, 49, "boundCount()");
        answers(made, 80, "type(0)");
        answers(made, 8, "actCount()");
        answers(made, 7, "undo()");
    }

    /** The last layer, bound, band, order and byte for which there is room. */
    private static void oneRoomLeft() {
        Books.Maker layers15 = () -> Books.layers(15);
        answers(layers15, 16, "addLayer()");
        answers(layers15.and("addLayer()"), IllegalStateException.class, "addLayer()");
        answers(layers15, IllegalStateException.class, "orders()");
        answers(() -> Books.layers(14), 87178291200L, "orders()");
        Books.Maker bounds49 = () -> {
            GlacierBook x = Books.layers(1);
            for (int number = 0; number < 49; number++) {
                x.most(1, 0, number);
            }
            return x;
        };
        answers(bounds49, 49, "least(1, 0, -5)", "most(1, 0, -5)");
        answers(bounds49.and("least(1, 0, -5)"), IllegalStateException.class, "least(1, 0, -6)",
                "most(1, 0, 6)");
        answers(bounds49.and("least(1, 0, -5)", "takeBack(0)", "takeBack(49)"), IllegalStateException.class,
                "least(1, 0, -6)", "most(1, 0, 6)");
        answers(bounds49.and("takeBack(0)"), 49, "least(1, 0, -5)", "most(1, 0, -5)");
        answers(bounds49.and("least(1, 0, -5)", "undo()"), 49, "least(1, 0, -6)", "most(1, 0, 6)");
        Books.Maker bands15 = () -> BandsTest.withBands("111111111111111", "222222222222222");
        answers(bands15, 15, "addBand(0, 1, 0)", "addBand(1, 1, 0)");
        answers(bands15.and("addBand(0, 1, 0)"), IllegalStateException.class, "addBand(0, 1, 0)");
        answers(bands15.and("addBand(0, 1, 0)"), 15, "addBand(1, 1, 0)");
        Books.Maker text79 = () -> {
            GlacierBook x = new GlacierBook();
            Books.type(x, "1".repeat(79));
            return x;
        };
        answers(text79, 80, "type('a')", "type(0x6100)", "type(0x6100000000000000)");
        answers(text79, IllegalStateException.class, "type('aa')", "type('        ')",
                "type(0x6100000000000061)");
        answers(text79.and("type('a')"), 80, "type(0)");
    }

    /** A book serves for 512 calls, and just the 8 latest of as many acts are remembered. */
    private static void calls512() {
        GlacierBook x = new GlacierBook();
        for (int act = 1; act <= 502; act++) {
            Expect.is("setCell() again and again", x.setCell(0, 0, act), act - 1);
        }
        Expect.is("actCount() behind 502 acts", x.actCount(), 8);
        for (int left = 7; left >= 0; left--) {
            Expect.is("undo() behind 502 acts", x.undo(), left);
        }
        Expect.is("iceOf(0) behind 494 acts", x.iceOf(0), 494);
        GlacierBook y = new GlacierBook();
        for (int value = 1; value <= 502; value++) {
            y.read(3, 4, value);
        }
        for (int left = 7; left >= 0; left--) {
            y.undo();
            Expect.is("valueOf(0, 4), filled", left % 4 == 0 ? y.valueOf(0, 4) : 494 + left, 494 + left);
        }
    }
}
