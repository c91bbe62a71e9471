/** Promises 45 to 47: lines of text. */
public final class LinesTest {
    public static void main(String[] args) {
        promise45();
        promise45EachByte();
        promise46();
        promise46WordsBefore();
        promise46Numbers();
        promise46Ends();
        promise47();
        promise47Exceptions();
        promise47IsTheCall();
        Expect.end("LinesTest");
    }

    private static int faultOf(String line) {
        GlacierBook x = new GlacierBook();
        Books.type(x, line);
        return x.fault();
    }

    private static int lineOn(GlacierBook x, String line) {
        Books.type(x, line);
        return x.doLine();
    }

    private static void promise45() {
        GlacierBook x = Books.layers(1);
        Expect.is("type(0)", x.type(0L), 0);
        Expect.is("type() of 'layer'", x.type(Books.bytes("layer")), 5);
        Expect.is("fault()", x.fault(), -1);
        Expect.is("type() with bytes that are 0 between", x.type(0x2000200000002000L), 8);
        Expect.is("fault()", x.fault(), -1);
        Expect.is("type() of one, the highest byte", x.type((long) 'x' << 56), 9);
        Expect.is("fault()", x.fault(), 1);
        Expect.is("doLine() empties the text", throwsAtDoLine(x), true);
        Expect.is("type() of 8", x.type(Books.bytes("least 1 ")), 8);
        Expect.is("type() of the rest, 0 ahead", x.type(Books.bytes("0 7")), 11);
        Expect.is("doLine(), the highest one first", x.doLine(), 0);
        Expect.is("low(1, 0)", x.low(1, 0), 7);
        Expect.is("type() behind doLine()", x.type(Books.bytes("1")), 1);
        GlacierBook y = new GlacierBook();
        for (int i = 1; i <= 9; i++) {
            Expect.is("type() of 8 blanks", y.type(Books.bytes("        ")), 8 * i);
        }
        Expect.is("type() up to 78", y.type(Books.bytes("layer ")), 78);
        Expect.badState("type() up to 81", () -> y.type(Books.bytes("abc")));
        Expect.badNumber("type() up to 81, and a wrong byte", () -> y.type(Books.bytes("ab") << 8 | 31));
        Expect.is("type() up to 80", y.type(Books.bytes("  ")), 80);
        Expect.is("type(0) with 80", y.type(0L), 80);
        Expect.badState("type() up to 81", () -> y.type(Books.bytes("a")));
        Expect.is("fault() as before", y.fault(), -1);
        Expect.is("type() is no act", y.actCount(), 0);
    }

    private static boolean throwsAtDoLine(GlacierBook x) {
        try {
            x.doLine();
            return false;
        } catch (IllegalArgumentException e) {
            return x.type(0L) == 0;
        }
    }

    private static void promise45EachByte() {
        for (int place = 0; place < 8; place++) {
            for (int sign = 0; sign < 256; sign++) {
                GlacierBook x = new GlacierBook();
                long bytes = (long) sign << (8 * place);
                if (sign == 0 || sign >= 32 && sign <= 126) {
                    Expect.is("type(" + bytes + ")", x.type(bytes), sign == 0 ? 0 : 1);
                } else {
                    Expect.badNumber("type(" + bytes + ")", () -> x.type(bytes));
                    long blanks = 0x2020202020202020L & ~(255L << (8 * place));
                    Expect.badNumber("type() of it among blanks", () -> x.type(bytes | blanks));
                    Expect.is("type(0) behind it", x.type(0L), 0);
                }
            }
        }
        Expect.badNumber("type(-1)", () -> new GlacierBook().type(-1L));
        Expect.badNumber("type(MIN)", () -> new GlacierBook().type(Long.MIN_VALUE));
        Expect.badNumber("type(MAX)", () -> new GlacierBook().type(Long.MAX_VALUE));
    }

    private static void promise46() {
        Expect.is("fault() without words", faultOf("    "), 0);
        for (String good : new String[] {"least 1 2 3", "most 1 2 3", "on 1 2", "band 0 1 2",
            "date 0 1 2", "layer", "  layer", "layer  ", "  on   1  2  ", "least 99 -99 123456789",
            "most 1 1 10000", "most -2147483648 2147483647 0", "on 0 0", "on 17 -1", "band 2 0 4",
            "band -1 10 -1", "date 2 16 100000", "date 0 -1 -1"}) {
            Expect.is("fault() of '" + good + "'", faultOf(good), -1);
        }
        for (String bad : new String[] {"Layer", "layers", "laye", "lay er", "least1 2 3", "1", "onn 1 2", "o",
            "n 1 2", "undo", "l", "dates 0 1 2", "mos 1 2 3", "x layer", "- layer", "kayer", "layes"}) {
            Expect.is("fault() of '" + bad + "'", faultOf(bad), 0);
        }
        for (String name : new String[] {"least", "most", "band", "date"}) {
            Expect.is("fault() of " + name, faultOf(name), 1);
            Expect.is("fault() of " + name + " 1", faultOf(name + " 1"), 2);
            Expect.is("fault() of " + name + " 1 1", faultOf(name + " 1 1"), 3);
            Expect.is("fault() of " + name + " 1 1 1", faultOf(name + " 1 1 1"), -1);
            Expect.is("fault() of " + name + " 1 1 1 1", faultOf(name + " 1 1 1 1"), 4);
            Expect.is("fault() of " + name + " 1 1 1 x y", faultOf(name + " 1 1 1 x y"), 4);
            Expect.is("fault() of " + name + " x", faultOf(name + " x"), 1);
            Expect.is("fault() of " + name + " 1 x 1 1 1", faultOf(name + " 1 x 1 1 1"), 2);
            Expect.is("fault() of " + name + " 1 1 x", faultOf(name + " 1 1 x"), 3);
            Expect.is("fault() of " + name + " 1 1 x 1", faultOf(name + " 1 1 x 1"), 3);
        }
        Expect.is("fault() of on", faultOf("on"), 1);
        Expect.is("fault() of on 1", faultOf("on 1"), 2);
        Expect.is("fault() of on 1 1 1", faultOf("on 1 1 1"), 3);
        Expect.is("fault() of layer 1", faultOf("layer 1"), 1);
        Expect.is("fault() of layer layer", faultOf("layer layer"), 1);
        GlacierBook x = new GlacierBook();
        Books.type(x, "layer ");
        Expect.is("fault() changes nothing", x.fault(), -1);
        Books.type(x, "1");
        Expect.is("fault() behind more", x.fault(), 1);
        Expect.is("fault() again", x.fault(), 1);
        Expect.is("the text is as it was", x.type(0L), 7);
    }

    /** What words there were before tells nothing of the words that are missing now. */
    private static void promise46WordsBefore() {
        GlacierBook x = Books.layers(1);
        lineOn(x, "least 1 0 5");
        Books.type(x, "least 1 0");
        Expect.is("fault() of a word that was there", x.fault(), 3);
        Expect.badNumber("doLine()", x::doLine);
        Expect.is("fault() of the line that was there", x.fault(), 0);
        Expect.badNumber("doLine()", x::doLine);
        Expect.is("boundCount()", x.boundCount(), 1);
    }

    private static void promise46Numbers() {
        for (String good : new String[] {"0", "+0", "-0", "007", "+5", "-5", "2147483647", "+2147483647",
            "-2147483648", "0000000000000000002147483647", "-00000000000000000002147483648",
            "0000000000000000000000000000000000000000000000000000000000000000000001"}) {
            Expect.is("fault() of on 1 " + good, faultOf("on 1 " + good), -1);
        }
        for (String bad : new String[] {"+", "-", "+-1", "--1", "++1", "1-", "1+", "1.0", "1a", "a1", "0x1", "1,",
            "2147483648", "+2147483648", "-2147483649", "9999999999", "4294967296", "4294967297",
            "9223372036854775808", "18446744073709551616", "18446744073709551617", "/", ":", "1:", "1/",
            "99999999999999999999999999999999999999999999999999999999999999999999999", "on", "layer"}) {
            Expect.is("fault() of on 1 " + bad, faultOf("on 1 " + bad), 2);
            Expect.is("fault() of on " + bad, faultOf("on " + bad), 1);
        }
    }

    private static void promise46Ends() {
        GlacierBook x = new GlacierBook();
        Books.type(x, "x".repeat(80));
        Expect.is("fault() of one word of 80 bytes", x.fault(), 0);
        StringBuilder line = new StringBuilder("on");
        for (int i = 0; i < 39; i++) {
            line.append(" 1");
        }
        GlacierBook y = new GlacierBook();
        Books.type(y, line.toString());
        Expect.is("the text is full", y.type(0L), 80);
        Expect.is("fault() of 40 words", y.fault(), 3);
        GlacierBook z = new GlacierBook();
        Books.type(z, "1 ".repeat(40));
        Expect.is("fault() of 40 numbers", z.fault(), 0);
        GlacierBook w = new GlacierBook();
        Books.type(w, " ".repeat(75) + "layer");
        Expect.is("fault() of a word at the very end", w.fault(), -1);
        Expect.is("doLine()", w.doLine(), 1);
    }

    private static void promise47() {
        GlacierBook x = new GlacierBook();
        Expect.is("layer", lineOn(x, " layer "), 1);
        Expect.is("layer", lineOn(x, "layer"), 2);
        Expect.is("least", lineOn(x, "least 2 1 +30"), 0);
        Expect.is("low(2, 1)", x.low(2, 1), 30);
        Expect.is("most", lineOn(x, "most  2   1 0040"), 1);
        Expect.is("high(2, 1)", x.high(2, 1), 40);
        Expect.is("most, below 0", lineOn(x, "most 0 1 -5"), 2);
        Expect.is("low(1, 0)", x.low(1, 0), 5);
        Expect.is("on", lineOn(x, "on 1 2"), 1);
        Expect.is("isAbove(1, 2)", x.isAbove(1, 2), true);
        Expect.is("band", lineOn(x, "band 1 7 3"), 0);
        Expect.is("bandCount(1)", x.bandCount(1), 1);
        Expect.is("band", lineOn(x, "band 0 7 2"), 0);
        Expect.is("leastPrice(), 7 beside 7 with unlike marks", x.leastPrice(), 3);
        Expect.is("date", lineOn(x, "date 1 0 4711"), -1);
        Expect.is("date again", lineOn(x, "date 1 0 4712"), 4711);
        Expect.is("ageOf(1, 0)", x.ageOf(1, 0), 4712);
        Expect.is("doLine() is one act", x.undo(), 7);
        Expect.is("ageOf(1, 0) behind undo()", x.ageOf(1, 0), 4711);
    }

    private static void emptied(String what, GlacierBook x, int acts) {
        Expect.is(what + ": the text is empty", x.type(0L), 0);
        Expect.is(what + ": actCount()", x.actCount(), acts);
    }

    private static void promise47Exceptions() {
        GlacierBook x = Books.layers(2);
        Expect.badNumber("doLine() without text", x::doLine);
        for (String bad : new String[] {"layer 1", "on 1 1 1", "least 1 2", "least 1 2 99999999999", "x", "   "}) {
            Expect.badNumber("doLine() of '" + bad + "'", () -> lineOn(x, bad));
            emptied(bad, x, 2);
        }
        for (String none : new String[] {"least 3 0 1", "most 0 -1 99999", "on 0 1", "on 3 3", "band 2 0 9",
            "date 0 0 1", "date -1 0 -1", "least -2147483648 2147483647 -2147483648"}) {
            Expect.noIndex("doLine() of '" + none + "'", () -> lineOn(x, none));
            emptied(none, x, 2);
        }
        for (String wrong : new String[] {"least 1 1 1", "most 1 0 10000", "least 1 0 -2147483648", "on 1 1",
            "band 0 0 0", "band 0 1 4"}) {
            Expect.badNumber("doLine() of '" + wrong + "'", () -> lineOn(x, wrong));
            emptied(wrong, x, 2);
        }
        Expect.is("least 1 0 5", lineOn(x, "least 1 0 5"), 0);
        Expect.badState("most 1 0 4", () -> lineOn(x, "most 1 0 4"));
        emptied("most 1 0 4", x, 3);
        Expect.is("its ring is told", x.ringLength(), 2);
        Expect.is("on 1 2", lineOn(x, "on 1 2"), 1);
        Expect.badState("on 2 1", () -> lineOn(x, "on 2 1"));
        emptied("on 2 1", x, 4);
        for (int layer = 3; layer <= 16; layer++) {
            x.addLayer();
        }
        Expect.badState("layer with 16", () -> lineOn(x, "layer"));
        emptied("layer with 16", x, 8);
        GlacierBook y = BandsTest.withBands("11", "");
        y.setDate(0, 0, 5);
        Expect.badState("date 0 1 4", () -> lineOn(y, "date 0 1 4"));
        Expect.badNumber("date 0 1 100000", () -> lineOn(y, "date 0 1 100000"));
        emptied("date 0 1 100000", y, 3);
        GlacierBook z = BandsTest.withBands("1111111111111111", "");
        Expect.badState("band 0 1 1 with 16", () -> lineOn(z, "band 0 1 1"));
        emptied("band 0 1 1 with 16", z, 8);
    }

    /** What a line does, and what it throws, is what its call does and throws. */
    private static void promise47IsTheCall() {
        GlacierBook x = Books.layers(3);
        Expect.is("least 3 1 -5 by its numbers' order", lineOn(x, "least 3 1 -5"), 0);
        Expect.is("low(3, 1)", x.low(3, 1), -5);
        Expect.nothingThere("high(3, 1)", () -> x.high(3, 1));
        Expect.is("most 2 3 9", lineOn(x, "most 2 3 9"), 1);
        Expect.is("high(2, 3)", x.high(2, 3), 9);
        Expect.is("on 3 1", lineOn(x, "on 3 1"), 1);
        Expect.is("lineAt(0)", x.lineAt(0), 97);
        Expect.is("band 0 9 1", lineOn(x, "band 0 9 1"), 0);
        Expect.is("band 1 3 1", lineOn(x, "band 1 3 1"), 0);
        Expect.is("leastPrice()", x.leastPrice(), 6);
        Expect.is("date 0 0 17", lineOn(x, "date 0 0 17"), -1);
        Expect.is("ageOf(0, 0)", x.ageOf(0, 0), 17);
    }
}
