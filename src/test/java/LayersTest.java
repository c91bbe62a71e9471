/** Promises 13 to 20: what lies on what. */
public final class LayersTest {
    private static final int[] WRONG_OF_FOUR = {0, -1, 5, 17, Integer.MIN_VALUE, Integer.MAX_VALUE};

    public static void main(String[] args) {
        promise13();
        promise14();
        promise15();
        promise16();
        promise17();
        promise18();
        promise18ManyLayers();
        promise19();
        promise20();
        allSmallPiles();
        Expect.end("LayersTest");
    }

    private static void drawing(String what, GlacierBook x, int... due) {
        Expect.is(what + ": lineCount()", x.lineCount(), due.length / 2);
        for (int i = 0; 2 * i < due.length && i < x.lineCount(); i++) {
            Expect.is(what + ": lineAt(" + i + ")", x.lineAt(i), 32 * due[2 * i] + due[2 * i + 1]);
        }
        Expect.noIndex(what + ": lineAt() behind the last", () -> x.lineAt(due.length / 2));
    }

    private static void promise13() {
        GlacierBook x = Books.layers(4);
        for (int wrong : WRONG_OF_FOUR) {
            Expect.noLayer("layOn(" + wrong + ", 1)", () -> x.layOn(wrong, 1));
            Expect.noLayer("layOn(1, " + wrong + ")", () -> x.layOn(1, wrong));
            Expect.noLayer("layOn of the same that is none", () -> x.layOn(wrong, wrong));
        }
        Expect.badNumber("layOn(2, 2)", () -> x.layOn(2, 2));
        Expect.is("layOn(1, 2)", x.layOn(1, 2), 1);
        Expect.is("layOn(1, 3)", x.layOn(1, 3), 2);
        Expect.is("layOn(2, 3), what was told follows now", x.layOn(2, 3), 2);
        Expect.is("layOn(2, 3) again", x.layOn(2, 3), 2);
        Expect.is("told again it is an act", x.actCount(), 8);
        Expect.badState("layOn(2, 1)", () -> x.layOn(2, 1));
        Expect.badState("layOn(3, 1), above through 2", () -> x.layOn(3, 1));
        Expect.is("layOn(4, 1)", x.layOn(4, 1), 3);
        Expect.badState("layOn(3, 4), above through 2 and 1", () -> x.layOn(3, 4));
        Expect.is("layOn(4, 3), follows", x.layOn(4, 3), 3);
        drawing("at the end", x, 1, 2, 2, 3, 4, 1);
        Expect.nothingThere("no ages are told by this", () -> x.low(1, 2));
        Expect.nothingThere("no ages are told by this", () -> x.high(1, 2));
    }

    private static void promise14() {
        GlacierBook x = Books.layers(4);
        x.layOn(1, 2);
        x.layOn(2, 3);
        x.layOn(1, 3);
        for (int wrong : WRONG_OF_FOUR) {
            Expect.noLayer("takeOff(" + wrong + ", 1)", () -> x.takeOff(wrong, 1));
            Expect.noLayer("takeOff(1, " + wrong + ")", () -> x.takeOff(1, wrong));
        }
        Expect.nothingThere("takeOff(2, 1)", () -> x.takeOff(2, 1));
        Expect.nothingThere("takeOff(2, 2)", () -> x.takeOff(2, 2));
        Expect.nothingThere("takeOff(3, 4)", () -> x.takeOff(3, 4));
        Expect.is("takeOff(2, 3)", x.takeOff(2, 3), 2);
        drawing("1 on 3 is a line now", x, 1, 2, 1, 3);
        Expect.nothingThere("takeOff(2, 3) again", () -> x.takeOff(2, 3));
        x.layOn(2, 3);
        Expect.is("takeOff(1, 3), it follows still", x.takeOff(1, 3), 2);
        Expect.is("isAbove(1, 3)", x.isAbove(1, 3), true);
        Expect.nothingThere("takeOff(1, 3), it just follows", () -> x.takeOff(1, 3));
        Expect.is("takeOff(1, 2)", x.takeOff(1, 2), 1);
        Expect.is("isAbove(1, 3)", x.isAbove(1, 3), false);
        Expect.is("layOn(3, 1) now", x.layOn(3, 1), 2);
        x.layOn(2, 3);
        x.takeOff(2, 3);
        Expect.is("told twice, taken back once", x.isAbove(2, 3), false);
    }

    private static void promise15() {
        GlacierBook x = Books.layers(4);
        x.layOn(4, 2);
        x.layOn(2, 1);
        x.layOn(1, 3);
        int[] place = {0, 2, 1, 3, 0};
        for (int a = 1; a <= 4; a++) {
            for (int b = 1; b <= 4; b++) {
                Expect.is("isAbove(" + a + ", " + b + ")", x.isAbove(a, b), place[a] < place[b]);
            }
        }
        GlacierBook y = Books.layers(16);
        for (int between = 1; between <= 16; between++) {
            int upper = between % 16 + 1;
            int lower = upper % 16 + 1;
            y.layOn(upper, between);
            y.layOn(between, lower);
            Expect.is("isAbove() through " + between, y.isAbove(upper, lower), true);
            Expect.is("isAbove() the other way", y.isAbove(lower, upper), false);
            y.undo();
            y.undo();
        }
        for (int wrong : WRONG_OF_FOUR) {
            Expect.noLayer("isAbove(" + wrong + ", 1)", () -> x.isAbove(wrong, 1));
            Expect.noLayer("isAbove(1, " + wrong + ")", () -> x.isAbove(1, wrong));
        }
    }

    private static void promise16() {
        GlacierBook x = Books.layers(4);
        Expect.is("lineCount() at first", x.lineCount(), 0);
        x.layOn(1, 4);
        x.layOn(2, 4);
        x.layOn(3, 4);
        Expect.is("lineCount() of a fan", x.lineCount(), 3);
        x.layOn(1, 2);
        Expect.is("lineCount() with one between", x.lineCount(), 3);
        x.layOn(2, 3);
        Expect.is("lineCount() of a chain", x.lineCount(), 3);
        x.layOn(1, 3);
        Expect.is("lineCount() of a chain, more told", x.lineCount(), 3);
    }

    private static void promise17() {
        GlacierBook x = Books.layers(16);
        Expect.noIndex("lineAt(0) without lines", () -> x.lineAt(0));
        x.layOn(16, 1);
        x.layOn(3, 9);
        x.layOn(3, 2);
        x.layOn(2, 16);
        x.layOn(5, 16);
        drawing("in order", x, 2, 16, 3, 2, 3, 9, 5, 16, 16, 1);
        Expect.is("lineAt(0)", x.lineAt(0), 80);
        Expect.is("lineAt(4)", x.lineAt(4), 513);
        for (int wrong : new int[] {-1, 5, 6, Integer.MIN_VALUE, Integer.MAX_VALUE}) {
            Expect.noIndex("lineAt(" + wrong + ")", () -> x.lineAt(wrong));
        }
        x.layOn(3, 16);
        x.layOn(3, 1);
        drawing("told, but not drawn", x, 2, 16, 3, 2, 3, 9, 5, 16, 16, 1);
    }

    private static void promise18() {
        GlacierBook x = new GlacierBook();
        Expect.is("orders() without layers", x.orders(), 1L);
        long factorial = 1;
        for (int layers = 1; layers <= 14; layers++) {
            x.addLayer();
            factorial *= layers;
            Expect.is("orders() of loose ones", x.orders(), factorial);
        }
        x.layOn(3, 1);
        Expect.is("orders() with one told", x.orders(), factorial / 2);
        x.layOn(1, 14);
        Expect.is("orders() with a chain of three", x.orders(), factorial / 6);
        x.addLayer();
        Expect.badState("orders() with 15", x::orders);
        x.addLayer();
        Expect.badState("orders() with 16", x::orders);
        x.undo();
        x.undo();
        Expect.is("orders() with 14 again", x.orders(), factorial / 6);
        GlacierBook y = Books.layers(4);
        y.layOn(1, 3);
        y.layOn(2, 3);
        y.layOn(2, 4);
        Expect.is("orders() of an N", y.orders(), 5L);
        y.layOn(1, 4);
        Expect.is("orders() of two on two", y.orders(), 4L);
    }

    private static void promise18ManyLayers() {
        GlacierBook x = Books.layers(14);
        for (int layer = 1; layer < 14; layer++) {
            x.layOn(layer + 1, layer);
        }
        Expect.is("orders() of a chain of 14", x.orders(), 1L);
        GlacierBook y = Books.layers(14);
        for (int layer = 1; layer < 14; layer++) {
            y.layOn(14, layer);
        }
        Expect.is("orders() of one on 13", y.orders(), 6227020800L);
        GlacierBook z = Books.layers(14);
        for (int layer = 1; layer < 14; layer += 2) {
            z.layOn(layer, layer + 1);
        }
        Expect.is("orders() of seven pairs", z.orders(), 87178291200L / 128);
        GlacierBook w = Books.layers(14);
        for (int layer = 1; layer < 14; layer++) {
            if (layer % 2 == 0) {
                w.layOn(layer, layer + 1);
            } else {
                w.layOn(layer + 1, layer);
            }
        }
        Expect.is("orders() of a zigzag of 14", w.orders(), 199360981L);
    }

    private static void order(String what, GlacierBook x, int... due) {
        for (int i = 0; i < due.length; i++) {
            Expect.is(what + ": orderAt(" + i + ")", x.orderAt(i), due[i]);
        }
        Expect.noIndex(what + ": orderAt(-1)", () -> x.orderAt(-1));
        Expect.noIndex(what + ": orderAt(count)", () -> x.orderAt(due.length));
    }

    private static void promise19() {
        order("without layers", new GlacierBook());
        GlacierBook x = Books.layers(5);
        order("loose ones", x, 1, 2, 3, 4, 5);
        x.layOn(5, 1);
        order("5 on 1", x, 2, 3, 4, 5, 1);
        x.layOn(3, 2);
        order("3 on 2", x, 3, 2, 4, 5, 1);
        x.layOn(1, 4);
        order("1 on 4", x, 3, 2, 5, 1, 4);
        Expect.noIndex("orderAt(MAX)", () -> x.orderAt(Integer.MAX_VALUE));
        Expect.noIndex("orderAt(MIN)", () -> x.orderAt(Integer.MIN_VALUE));
        GlacierBook y = Books.layers(16);
        for (int layer = 1; layer < 16; layer++) {
            y.layOn(layer + 1, layer);
        }
        order("16 upside down", y, 16, 15, 14, 13, 12, 11, 10, 9, 8, 7, 6, 5, 4, 3, 2, 1);
    }

    private static void promise20() {
        GlacierBook x = Books.layers(4);
        for (int wrong : WRONG_OF_FOUR) {
            Expect.noLayer("phase(" + wrong + ")", () -> x.phase(wrong));
        }
        Expect.is("phase(1) alone", x.phase(1), 0);
        x.layOn(2, 1);
        x.layOn(3, 1);
        Expect.is("phase(1), two that are not above one another", x.phase(1), 1);
        x.layOn(4, 3);
        Expect.is("phase(1), a chain of two", x.phase(1), 2);
        Expect.is("phase(2)", x.phase(2), 0);
        Expect.is("phase(3)", x.phase(3), 1);
        Expect.is("phase(4)", x.phase(4), 0);
        x.layOn(2, 4);
        Expect.is("phase(1), a chain of three", x.phase(1), 3);
        x.takeOff(4, 3);
        Expect.is("phase(1), the chain is cut", x.phase(1), 1);
        GlacierBook y = Books.layers(16);
        for (int layer = 1; layer < 16; layer++) {
            y.layOn(layer + 1, layer);
        }
        Expect.is("phase(1) under 15", y.phase(1), 15);
    }

    /** All piles of four layers in which none lies on one with a lesser number. */
    private static void allSmallPiles() {
        int[][] pairs = {{1, 2}, {1, 3}, {1, 4}, {2, 3}, {2, 4}, {3, 4}};
        for (int told = 0; told < 64; told++) {
            GlacierBook x = Books.layers(4);
            PlainBook y = new PlainBook();
            for (int layer = 0; layer < 4; layer++) {
                y.addLayer();
            }
            for (int i = 0; i < 6; i++) {
                if ((told >> i & 1) == 1) {
                    Expect.is("layOn()", x.layOn(pairs[i][0], pairs[i][1]),
                            y.layOn(pairs[i][0], pairs[i][1]));
                }
            }
            Expect.is("orders() of the pile " + told, x.orders(), y.orders());
            Expect.is("aboveShare() of the pile " + told, x.aboveShare(), y.aboveShare());
            for (int layer = 1; layer <= 4; layer++) {
                Expect.is("phase() in the pile " + told, x.phase(layer), y.phase(layer));
            }
        }
    }
}
