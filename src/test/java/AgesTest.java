/** Promises 2 to 12: ages between bounds. */
public final class AgesTest {
    private static final int LEAST_INT = Integer.MIN_VALUE;
    private static final int GREATEST_INT = Integer.MAX_VALUE;

    public static void main(String[] args) {
        promise02();
        promise03();
        promise03WrongInputs();
        promise04();
        promise04WrongInputs();
        promises03And04FiftyBounds();
        promise05();
        promise06();
        promise07();
        promise08();
        promise09();
        promise10FewestBounds();
        promise10LeastSum();
        promise10LeastNumbers();
        promise10OtherBegins();
        promise10LongRing();
        promise10WhatIsKept();
        promise11();
        promise12();
        Expect.end("AgesTest");
    }

    private static void ring(String what, GlacierBook x, int... due) {
        Expect.is(what + ": ringLength()", x.ringLength(), due.length);
        for (int i = 0; i < due.length && i < x.ringLength(); i++) {
            Expect.is(what + ": ringAt(" + i + ")", x.ringAt(i), due[i]);
        }
        Expect.noIndex(what + ": ringAt(-1)", () -> x.ringAt(-1));
        Expect.noIndex(what + ": ringAt(length)", () -> x.ringAt(due.length));
    }

    private static void promise02() {
        GlacierBook x = new GlacierBook();
        for (int layer = 1; layer <= 16; layer++) {
            Expect.is("addLayer()", x.addLayer(), layer);
            Expect.is("layerCount()", x.layerCount(), layer);
        }
        Expect.badState("addLayer() with 16", x::addLayer);
        Expect.is("layerCount() with 16", x.layerCount(), 16);
        Expect.is("low(16, 16)", x.low(16, 16), 0);
        Expect.is("undo() behind a wrong addLayer()", x.undo(), 7);
        Expect.is("layerCount() behind undo()", x.layerCount(), 15);
    }

    private static void promise03() {
        GlacierBook x = Books.layers(3);
        Expect.is("least(2, 1, 30)", x.least(2, 1, 30), 0);
        Expect.is("low(2, 1)", x.low(2, 1), 30);
        Expect.is("high(1, 2)", x.high(1, 2), -30);
        Expect.nothingThere("high(2, 1)", () -> x.high(2, 1));
        Expect.is("least(1, 0, -9999)", x.least(1, 0, -9999), 1);
        Expect.is("low(1, 0)", x.low(1, 0), -9999);
        Expect.is("low(2, 0)", x.low(2, 0), -9969);
        Expect.is("least(3, 2, 9999)", x.least(3, 2, 9999), 2);
        Expect.is("low(3, 0)", x.low(3, 0), 30);
        Expect.is("least(0, 1, 5)", x.least(0, 1, 5), 3);
        Expect.is("high(1, 0), an age below 0", x.high(1, 0), -5);
        Expect.is("least(2, 1, 20), a weaker one", x.least(2, 1, 20), 4);
        Expect.is("low(2, 1) as before", x.low(2, 1), 30);
        Expect.badState("least(0, 3, -29)", () -> x.least(0, 3, -29));
        Expect.is("a refused one takes no number", x.least(2, 1, 31), 5);
        Expect.is("boundCount()", x.boundCount(), 6);
    }

    private static void promise03WrongInputs() {
        GlacierBook x = Books.layers(2);
        for (int wrong : new int[] {-1, 3, 17, LEAST_INT, GREATEST_INT}) {
            Expect.noLayer("least(" + wrong + ", 0, 1)", () -> x.least(wrong, 0, 1));
            Expect.noLayer("least(0, " + wrong + ", 1)", () -> x.least(0, wrong, 1));
            Expect.noLayer("least of no layer, both the same", () -> x.least(wrong, wrong, 10000));
        }
        Expect.badNumber("least(0, 0, 1)", () -> x.least(0, 0, 1));
        Expect.badNumber("least(2, 2, -1)", () -> x.least(2, 2, -1));
        for (int years : new int[] {10000, -10000, LEAST_INT, GREATEST_INT, LEAST_INT + 1}) {
            Expect.badNumber("least(2, 1, " + years + ")", () -> x.least(2, 1, years));
        }
        Expect.is("boundCount()", x.boundCount(), 0);
        Expect.is("ringLength()", x.ringLength(), 0);
        Expect.is("actCount()", x.actCount(), 2);
    }

    private static void promise04() {
        GlacierBook x = Books.layers(3);
        Expect.is("most(2, 1, 30)", x.most(2, 1, 30), 0);
        Expect.is("high(2, 1)", x.high(2, 1), 30);
        Expect.is("low(1, 2)", x.low(1, 2), -30);
        Expect.nothingThere("low(2, 1)", () -> x.low(2, 1));
        Expect.is("most(3, 2, -9999)", x.most(3, 2, -9999), 1);
        Expect.is("high(3, 1)", x.high(3, 1), -9969);
        Expect.is("most(1, 0, 9999)", x.most(1, 0, 9999), 2);
        Expect.is("high(3, 0)", x.high(3, 0), 30);
        Expect.is("least(2, 1, 30), just fits", x.least(2, 1, 30), 3);
        Expect.is("low(2, 1)", x.low(2, 1), 30);
        Expect.badState("most(2, 1, 29)", () -> x.most(2, 1, 29));
        ring("most(2, 1, 29)", x, -1, 3);
        Expect.is("most(2, 1, 31)", x.most(2, 1, 31), 4);
    }

    private static void promise04WrongInputs() {
        GlacierBook x = Books.layers(2);
        for (int wrong : new int[] {-1, 3, 17, LEAST_INT, GREATEST_INT}) {
            Expect.noLayer("most(" + wrong + ", 0, 1)", () -> x.most(wrong, 0, 1));
            Expect.noLayer("most(0, " + wrong + ", 1)", () -> x.most(0, wrong, 1));
            Expect.noLayer("most of no layer, both the same", () -> x.most(wrong, wrong, 10000));
        }
        Expect.badNumber("most(0, 0, 1)", () -> x.most(0, 0, 1));
        Expect.badNumber("most(1, 1, 0)", () -> x.most(1, 1, 0));
        for (int years : new int[] {10000, -10000, LEAST_INT, GREATEST_INT, LEAST_INT + 1}) {
            Expect.badNumber("most(2, 1, " + years + ")", () -> x.most(2, 1, years));
        }
        Expect.is("boundCount()", x.boundCount(), 0);
        Expect.is("actCount()", x.actCount(), 2);
    }

    private static void promises03And04FiftyBounds() {
        GlacierBook x = Books.layers(2);
        for (int number = 0; number < 50; number++) {
            Expect.is("a bound", number % 2 == 0 ? x.least(1, 0, number) : x.most(1, 0, 100), number);
        }
        Expect.badState("least() with 50, not refused", () -> x.least(2, 0, 1));
        Expect.badState("most() with 50, not refused", () -> x.most(2, 0, 1));
        Expect.badState("least() with 50, not to fit", () -> x.least(1, 0, 101));
        Expect.badState("most() with 50, not to fit", () -> x.most(1, 0, 1));
        Expect.is("ring with 50", x.ringLength(), 0);
        Expect.badNumber("least() with 50 of the same", () -> x.least(1, 1, 0));
        Expect.badNumber("most() with 50 of too many years", () -> x.most(1, 2, 10000));
        Expect.noLayer("most() with 50 of no layer", () -> x.most(3, 2, 10000));
        Expect.is("low(1, 0) with 50", x.low(1, 0), 48);
        Expect.is("high(1, 0) with 50", x.high(1, 0), 100);
        Expect.is("follows(48) with 50", x.follows(48), false);
        Expect.is("follows(49) with 50", x.follows(49), true);
        Expect.is("errors() with 50", x.errors(), 0);
        Expect.is("takeBack(7)", x.takeBack(7), 49);
        Expect.badState("least() with 50, one taken back", () -> x.least(2, 0, 1));
        Expect.is("undo()", x.undo(), 7);
        Expect.is("undo() of the last bound", x.undo(), 6);
        Expect.is("boundCount()", x.boundCount(), 49);
        Expect.badState("least() that is refused", () -> x.least(1, 0, 101));
        ring("least() that is refused", x, -1, 1);
        Expect.is("the last number", x.least(2, 0, 1), 49);
    }

    private static void promise05() {
        GlacierBook x = Books.layers(2);
        x.least(1, 0, 10);
        x.most(1, 0, 20);
        x.least(2, 1, 5);
        for (int wrong : new int[] {-1, 3, 50, LEAST_INT, GREATEST_INT}) {
            Expect.noIndex("takeBack(" + wrong + ")", () -> x.takeBack(wrong));
        }
        Expect.is("takeBack(0)", x.takeBack(0), 2);
        Expect.badState("takeBack(0) again", () -> x.takeBack(0));
        Expect.nothingThere("low(1, 0)", () -> x.low(1, 0));
        Expect.is("high(1, 0)", x.high(1, 0), 20);
        Expect.is("the next number", x.least(1, 0, 12), 3);
        Expect.is("low(2, 0)", x.low(2, 0), 17);
        Expect.is("takeBack(1)", x.takeBack(1), 2);
        Expect.is("takeBack(2)", x.takeBack(2), 1);
        Expect.is("takeBack(3)", x.takeBack(3), 0);
        Expect.badState("takeBack(3) again", () -> x.takeBack(3));
        Expect.is("undo()", x.undo(), 7);
        Expect.is("takeBack(3) behind undo()", x.takeBack(3), 0);
    }

    private static void promise06() {
        GlacierBook x = Books.layers(4);
        x.least(2, 1, 10);
        x.least(3, 2, 10);
        x.least(3, 1, 20);
        Expect.is("follows(0)", x.follows(0), false);
        Expect.is("follows(1)", x.follows(1), false);
        Expect.is("follows(2), as strong as the others", x.follows(2), true);
        x.least(3, 1, 21);
        Expect.is("follows(3), stronger", x.follows(3), false);
        x.least(3, 1, 19);
        Expect.is("follows(4), weaker", x.follows(4), true);
        x.most(4, 1, 7);
        Expect.is("follows(5), alone", x.follows(5), false);
        x.most(4, 1, 7);
        Expect.is("follows(5), there twice", x.follows(5), true);
        Expect.is("follows(6), there twice", x.follows(6), true);
        x.takeBack(5);
        Expect.is("follows(6), its twin taken back", x.follows(6), false);
        Expect.badState("follows(5), taken back", () -> x.follows(5));
        for (int wrong : new int[] {-1, 7, LEAST_INT, GREATEST_INT}) {
            Expect.noIndex("follows(" + wrong + ")", () -> x.follows(wrong));
        }
        Expect.is("follows() is no act", x.actCount(), 8);
        GlacierBook y = Books.layers(2);
        y.least(1, 0, 5);
        y.most(1, 0, 5);
        Expect.is("follows(), the same two ways", y.follows(0), false);
        y.most(0, 1, -5);
        Expect.is("follows(), told by most()", y.follows(0), true);
    }

    private static void promise07() {
        GlacierBook x = Books.layers(3);
        x.least(1, 0, 100);
        x.least(2, 1, 30);
        x.most(3, 0, 150);
        x.least(3, 2, 10);
        Expect.is("low(2, 0)", x.low(2, 0), 130);
        Expect.is("low(3, 0)", x.low(3, 0), 140);
        Expect.is("low(0, 3)", x.low(0, 3), -150);
        Expect.is("low(1, 3)", x.low(1, 3), -50);
        for (int a = 0; a <= 3; a++) {
            Expect.is("low of the same", x.low(a, a), 0);
        }
        GlacierBook y = Books.layers(3);
        y.least(1, 0, 100);
        Expect.nothingThere("low(2, 0) without a bound", () -> y.low(2, 0));
        Expect.nothingThere("low(0, 1) without a most one", () -> y.low(0, 1));
        Expect.is("low(1, 0)", y.low(1, 0), 100);
        for (int wrong : new int[] {-1, 4, LEAST_INT, GREATEST_INT}) {
            Expect.noLayer("low(" + wrong + ", 0)", () -> y.low(wrong, 0));
            Expect.noLayer("low(0, " + wrong + ")", () -> y.low(0, wrong));
            Expect.noLayer("low of the same that is none", () -> y.low(wrong, wrong));
        }
        GlacierBook z = Books.layers(16);
        for (int layer = 1; layer <= 16; layer++) {
            z.least(layer, layer - 1, 9999);
        }
        Expect.is("low(16, 0) over all layers", z.low(16, 0), 16 * 9999);
    }

    private static void promise08() {
        GlacierBook x = Books.layers(3);
        x.least(1, 0, 100);
        x.least(2, 1, 30);
        x.most(3, 0, 150);
        x.least(3, 2, 10);
        Expect.is("high(2, 0)", x.high(2, 0), 140);
        Expect.is("high(2, 1)", x.high(2, 1), 40);
        Expect.is("high(3, 0)", x.high(3, 0), 150);
        Expect.is("high(0, 1)", x.high(0, 1), -100);
        for (int a = 0; a <= 3; a++) {
            Expect.is("high of the same", x.high(a, a), 0);
        }
        x.takeBack(2);
        Expect.nothingThere("high(2, 0)", () -> x.high(2, 0));
        Expect.is("high(2, 3)", x.high(2, 3), -10);
        for (int wrong : new int[] {-1, 4, LEAST_INT, GREATEST_INT}) {
            Expect.noLayer("high(" + wrong + ", 0)", () -> x.high(wrong, 0));
            Expect.noLayer("high(0, " + wrong + ")", () -> x.high(0, wrong));
            Expect.noLayer("high of the same that is none", () -> x.high(wrong, wrong));
        }
        GlacierBook z = Books.layers(16);
        for (int layer = 1; layer <= 16; layer++) {
            z.most(layer, layer - 1, 9999);
        }
        Expect.is("high(16, 0) over all layers", z.high(16, 0), 16 * 9999);
    }

    private static void promise09() {
        GlacierBook x = Books.layers(2);
        Expect.is("ringLength() at first", x.ringLength(), 0);
        x.most(1, 0, 5);
        Expect.is("ringLength() behind a bound", x.ringLength(), 0);
        Expect.badState("least(1, 0, 6)", () -> x.least(1, 0, 6));
        Expect.is("ringLength() of two", x.ringLength(), 2);
        x.most(2, 1, 5);
        Expect.badState("least(2, 0, 11)", () -> x.least(2, 0, 11));
        Expect.is("ringLength() of three", x.ringLength(), 3);
    }

    /** A ring with fewer bounds is told, even if a longer one has a lesser sum. */
    private static void promise10FewestBounds() {
        GlacierBook x = Books.layers(3);
        x.least(1, 0, 100);
        x.least(2, 1, 100);
        x.least(3, 2, 100);
        x.least(3, 0, 50);
        Expect.badState("most(3, 0, 40)", () -> x.most(3, 0, 40));
        ring("the shorter one", x, -1, 3);
        Expect.badState("most(3, 0, 50)", () -> x.most(3, 0, 50));
        ring("the shorter one has the sum 0", x, -1, 0, 1, 2);
        Expect.badState("most(3, 0, 299)", () -> x.most(3, 0, 299));
        ring("the longer one by one", x, -1, 0, 1, 2);
        Expect.is("most(3, 0, 300)", x.most(3, 0, 300), 4);
    }

    private static void promise10LeastSum() {
        GlacierBook x = Books.layers(3);
        x.least(1, 0, 10);
        x.least(2, 1, 10);
        x.least(1, 0, 12);
        x.least(3, 0, 5);
        x.least(2, 3, 18);
        Expect.badState("most(2, 0, 9)", () -> x.most(2, 0, 9));
        ring("23 years beat 22 and 20", x, -1, 3, 4);
        x.takeBack(3);
        Expect.badState("most(2, 0, 9)", () -> x.most(2, 0, 9));
        ring("22 years beat 20", x, -1, 2, 1);
    }

    private static void promise10LeastNumbers() {
        GlacierBook x = Books.layers(4);
        x.least(3, 2, 10);
        x.least(3, 1, 5);
        x.least(2, 0, 10);
        x.least(1, 0, 15);
        Expect.badState("most(3, 0, 0)", () -> x.most(3, 0, 0));
        ring("from the second one on", x, -1, 2, 0);
        x.least(2, 0, 10);
        Expect.badState("most(3, 0, 1)", () -> x.most(3, 0, 1));
        ring("twins", x, -1, 2, 0);
        x.takeBack(2);
        Expect.badState("most(3, 0, 2)", () -> x.most(3, 0, 2));
        ring("one of the twins is gone", x, -1, 3, 1);
        GlacierBook y = Books.layers(1);
        y.most(1, 0, 5);
        y.least(0, 1, -5);
        y.most(1, 0, 4);
        y.least(0, 1, -4);
        Expect.badState("least(1, 0, 6)", () -> y.least(1, 0, 6));
        ring("bounds of two kinds", y, -1, 2);
    }

    /** Bounds with lesser numbers and the same years that begin elsewhere are none of the ring. */
    private static void promise10OtherBegins() {
        GlacierBook x = Books.layers(3);
        x.least(1, 2, 15);
        x.least(3, 0, 5);
        x.least(3, 2, 5);
        x.least(1, 0, 15);
        x.least(3, 1, 5);
        Expect.badState("most(3, 0, 10)", () -> x.most(3, 0, 10));
        ring("each begins where the one before ends", x, -1, 3, 4);
        Expect.badState("most(3, 2, 19)", () -> x.most(3, 2, 19));
        ring("each begins where the one before ends", x, -1, 0, 4);
    }

    private static void promise10LongRing() {
        GlacierBook x = Books.layers(16);
        for (int layer = 1; layer <= 16; layer++) {
            x.least(layer, layer - 1, 9999);
        }
        Expect.badState("most(16, 0, 9999)", () -> x.most(16, 0, 9999));
        ring("the least sum of all", x, -1, 0, 1, 2, 3, 4, 5, 6, 7, 8, 9, 10, 11, 12, 13, 14, 15);
        GlacierBook y = Books.layers(16);
        for (int layer = 16; layer >= 1; layer--) {
            y.least(layer, layer - 1, 1);
        }
        Expect.badState("most(16, 0, 15)", () -> y.most(16, 0, 15));
        ring("over all layers", y, -1, 15, 14, 13, 12, 11, 10, 9, 8, 7, 6, 5, 4, 3, 2, 1, 0);
        Expect.is("most(16, 0, 16)", y.most(16, 0, 16), 16);
    }

    private static void promise10WhatIsKept() {
        GlacierBook x = Books.layers(2);
        x.most(1, 0, 5);
        Expect.badState("least(1, 0, 6)", () -> x.least(1, 0, 6));
        ring("the first ring", x, -1, 0);
        Expect.badNumber("least(1, 1, 6)", () -> x.least(1, 1, 6));
        Expect.noLayer("least(3, 1, 6)", () -> x.least(3, 1, 6));
        x.takeBack(0);
        ring("its bound is taken back", x, -1, 0);
        x.undo();
        x.undo();
        ring("its bound is undone", x, -1, 0);
        x.least(2, 0, 1);
        x.least(1, 2, 1);
        ring("another bound is put in", x, -1, 0);
        Expect.badState("most(1, 0, 1)", () -> x.most(1, 0, 1));
        ring("another bound is refused", x, -1, 0, 1);
        Expect.badState("most(2, 0, 0)", () -> x.most(2, 0, 0));
        ring("a shorter ring", x, -1, 0);
        for (int wrong : new int[] {-1, 2, 3, LEAST_INT, GREATEST_INT}) {
            Expect.noIndex("ringAt(" + wrong + ")", () -> x.ringAt(wrong));
        }
        for (int number = 2; number < 50; number++) {
            x.most(1, 0, 100);
        }
        Expect.badState("least(1, 0, 101) with 50", () -> x.least(1, 0, 101));
        ring("no ring is told with 50", x, -1, 0);
    }

    private static void promise11() {
        GlacierBook x = Books.layers(7);
        Expect.is("layerCount()", x.layerCount(), 7);
        x.undo();
        Expect.is("layerCount() behind undo()", x.layerCount(), 6);
    }

    private static void promise12() {
        GlacierBook x = Books.layers(2);
        x.least(1, 0, 1);
        x.most(1, 0, 1);
        Expect.is("boundCount()", x.boundCount(), 2);
        Expect.badState("least(1, 0, 2)", () -> x.least(1, 0, 2));
        Expect.is("boundCount() behind a refused one", x.boundCount(), 2);
        x.takeBack(0);
        Expect.is("boundCount() behind takeBack()", x.boundCount(), 1);
        x.undo();
        Expect.is("boundCount() behind undo()", x.boundCount(), 2);
    }
}
