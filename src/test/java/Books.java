import java.lang.reflect.InvocationTargetException;
import java.lang.reflect.Method;
import java.util.ArrayList;
import java.util.Arrays;
import java.util.LinkedHashMap;
import java.util.List;
import java.util.Map;
import java.util.WeakHashMap;

/**
 * Books to try calls on, and all that can be told of a book by calls.
 *
 * What a book answers behind its 512th call is free. So a book is never looked at as a whole: it is
 * made anew for each part of the look, which leaves each of them far from 512 calls.
 */
final class Books {
    /** A call, or several ones, on a book. */
    interface Act {
        Object on(GlacierBook x);
    }

    /** Makes a book by the same calls each time. */
    interface Maker {
        GlacierBook make();

        /** The same book, and calls behind it. */
        default Maker and(String... calls) {
            return () -> {
                GlacierBook x = make();
                for (String told : calls) {
                    call(x, told);
                }
                return x;
            };
        }

        /** The same book, and a call behind it that may throw an exception. */
        default Maker andTry(Act act) {
            return () -> {
                GlacierBook x = make();
                answer(() -> act.on(x));
                return x;
            };
        }
    }

    /** The parts that undo() leaves as they are. */
    static final String TEXT = "the text", RING = "the ring";
    /** The parts that tell which acts are remembered. */
    static final String ACTS = "the number of acts", PAST = "the acts undone";

    /** What a maker's book answers, as it is asked for again and again. */
    private static final Map<Maker, Map<String, List<Object>>> LOOKS = new WeakHashMap<>();

    private Books() {
    }

    // ---- books

    static GlacierBook layers(int count) {
        GlacierBook x = new GlacierBook();
        for (int i = 0; i < count; i++) {
            x.addLayer();
        }
        return x;
    }

    /** A book in which each act can be done and has been done; with a ring and a text. */
    static GlacierBook rich() {
        GlacierBook x = richWithoutText();
        type(x, "on 5 3 ");
        return x;
    }

    static GlacierBook richWithoutText() {
        GlacierBook x = layers(5);
        x.least(1, 0, 10);
        x.most(2, 1, 20);
        x.least(2, 1, 3);
        x.most(1, 0, 500);
        x.takeBack(2);
        answer(() -> x.least(2, 0, 521));
        x.layOn(1, 2);
        x.layOn(2, 4);
        x.layOn(1, 4);
        x.layOn(1, 3);
        for (int band = 0; band < 3; band++) {
            x.addBand(0, 3 + band, band);
            x.addBand(1, 4 + band, 1);
        }
        x.addBand(1, 9, 3);
        x.setPrices(5, 1, 4);
        x.tie(1, 2);
        x.setDate(0, 0, 100);
        x.setDate(0, 2, 201);
        x.setDate(1, 2, 300);
        x.setZone(1, 5, 2);
        x.setZone(6, 2, 3);
        x.read(3, 4, -6);
        x.read(6, 4, 8);
        x.read(0, 9, 1);
        x.setCell(2, 10, 50);
        x.setCell(3, 70, 0);
        x.flow(1, 20, 3, 2);
        return x;
    }

    /** A book in which there is room for nothing more. */
    static GlacierBook full() {
        GlacierBook x = fullWithoutText();
        String line = "  most 0016 0000 -00000000000000000000001234";
        type(x, line + " ".repeat(80 - line.length()));
        return x;
    }

    static GlacierBook fullWithoutText() {
        GlacierBook x = layers(16);
        for (int layer = 1; layer <= 16; layer++) {
            x.least(layer, layer - 1, layer);
            x.most(layer, layer - 1, 10 * layer);
        }
        answer(() -> x.most(16, 14, 30));
        for (int number = 32; number < 50; number++) {
            x.least(16, number % 16, -9999);
        }
        x.takeBack(40);
        for (int layer = 1; layer < 16; layer++) {
            x.layOn(layer, layer + 1);
        }
        for (int band = 0; band < 16; band++) {
            x.addBand(0, 1 + band % 9, band % 4);
            x.addBand(1, 9 - band % 9, band % 3);
            x.setDate(0, band, 1000 * band);
        }
        x.setDate(1, 8, 50000);
        x.tie(15, 15);
        x.tie(0, 0);
        x.tie(7, 9);
        for (int zone = 0; zone < 8; zone++) {
            x.setZone(zone, 99 - zone, zone % 4);
            x.read(zone, 0, 999 - 250 * zone);
        }
        for (int cell = 0; cell < 12; cell++) {
            x.setCell(cell, 999 - cell, 999);
        }
        x.flow(50, 1900, 20, 20);
        return x;
    }

    // ---- lines

    /** Returns up to 8 signs as the number that type() takes. */
    static long bytes(String signs) {
        long bytes = 0;
        for (char sign : signs.toCharArray()) {
            bytes = bytes << 8 | sign;
        }
        return bytes;
    }

    static void type(GlacierBook x, String line) {
        for (int at = 0; at < line.length(); at += 8) {
            x.type(bytes(line.substring(at, Math.min(at + 8, line.length()))));
        }
    }

    // ---- calls that are told by a text

    /** Makes a call as it is written, with MIN and MAX for the ends of int, and signs in '' for type(). */
    static Object call(GlacierBook x, String told) {
        String name = told.substring(0, told.indexOf('('));
        String inside = told.substring(name.length() + 1, told.length() - 1);
        String[] words = name.equals("type") ? new String[] {inside} : inside.split(", ");
        for (Method method : GlacierBook.class.getMethods()) {
            if (method.getName().equals(name) && method.getDeclaringClass() == GlacierBook.class) {
                Object[] numbers = new Object[method.getParameterCount()];
                for (int i = 0; i < numbers.length; i++) {
                    numbers[i] = name.equals("type") ? (Object) longOf(words[i]) : (Object) intOf(words[i]);
                }
                return invoke(method, x, numbers);
            }
        }
        throw new AssertionError("no such call: " + told);
    }

    private static Object invoke(Method method, GlacierBook x, Object... numbers) {
        try {
            return method.invoke(x, numbers);
        } catch (InvocationTargetException e) {
            if (e.getCause() instanceof RuntimeException) {
                throw (RuntimeException) e.getCause();
            }
            throw new AssertionError(e.getCause());
        } catch (IllegalAccessException e) {
            throw new AssertionError(e);
        }
    }

    private static int intOf(String word) {
        return word.equals("MIN") ? Integer.MIN_VALUE
                : word.equals("MAX") ? Integer.MAX_VALUE : Integer.parseInt(word);
    }

    private static long longOf(String word) {
        return word.startsWith("'") ? bytes(word.substring(1, word.length() - 1)) : Long.decode(word);
    }

    // ---- what a book answers

    static Object answer(Expect.Call call) {
        try {
            return call.answer();
        } catch (RuntimeException e) {
            return e.getClass();
        }
    }

    private static Map<String, Act> parts() {
        Map<String, Act> parts = new LinkedHashMap<>();
        parts.put("the numbers", x -> List.of(x.layerCount(), x.boundCount(), x.lineCount(), x.bandCount(0),
                x.bandCount(1), x.leastPrice(), x.bestWays(), x.won(), x.aboveShare(), x.errors()));
        parts.put("low()", x -> pairs(0, 16, (a, b) -> x.low(a, b)));
        parts.put("high()", x -> pairs(0, 16, (a, b) -> x.high(a, b)));
        parts.put("follows()", x -> each(-1, 50, x::follows));
        parts.put("takeBack()", x -> each(-1, 50, x::takeBack));
        parts.put("the next numbers", x -> Arrays.asList(answer(() -> x.least(1, 0, -9999)),
                answer(() -> x.addBand(0, 1, 0)), answer(() -> x.addBand(1, 1, 0)), answer(x::addLayer)));
        parts.put("isAbove()", x -> pairs(1, 16, (a, b) -> x.isAbove(a, b)));
        parts.put("takeOff()", x -> pairs(1, 16, (a, b) -> x.takeOff(a, b)));
        parts.put("lineAt()", x -> each(-1, 70, x::lineAt));
        parts.put("orders", x -> List.of(answer(x::orders), each(-1, 16, x::orderAt), each(0, 17, x::phase)));
        parts.put("isSure()", x -> pairs(0, 15, (a, b) -> x.isSure(a, b)));
        parts.put("partner()", x -> pairs(0, 16, (a, b) -> a < 2 ? x.partner(a, b) : 0));
        parts.put("untie()", x -> pairs(0, 16, (a, b) -> a < 2 ? x.untie(a, b) : 0));
        parts.put("ageOf()", x -> pairs(0, 16, (a, b) -> a < 2 ? x.ageOf(a, b) : 0));
        parts.put("noDate()", x -> pairs(0, 16, (a, b) -> a < 2 ? x.noDate(a, b) : 0));
        parts.put("each price", Books::prices);
        parts.put("valueOf()", x -> pairs(0, 10, (a, b) -> a < 8 ? x.valueOf(a, b) : 0));
        parts.put("reason()", x -> pairs(0, 10, (a, b) -> a < 8 ? x.reason(a, b) : 0));
        parts.put("partBalance()", x -> pairs(0, 10, (a, b) -> a < 4 ? x.partBalance(a, b) : 0));
        parts.put("measures", x -> List.of(each(-1, 10, x::balance), each(-1, 10, x::lineOf),
                each(-1, 10, x::meanValue)));
        parts.put("noReading()", x -> pairs(0, 10, (a, b) -> a < 8 ? x.noReading(a, b) : 0));
        parts.put("setZone()", x -> each(0, 7, zone -> x.setZone(zone, 1, 0)));
        parts.put("iceOf()", x -> each(-1, 12, x::iceOf));
        parts.put("the beds", x -> List.of(x.flow(1, 77, 3, 2), each(0, 11, x::iceOf), x.won()));
        parts.put(RING, x -> List.of(x.ringLength(), each(-1, 17, x::ringAt)));
        parts.put(TEXT, x -> List.of(x.type(0L), x.fault(), answer(x::doLine), answer(() -> x.type(' '))));
        parts.put(TEXT + " with an end", x -> List.of(answer(() -> x.type('4')), x.fault(), answer(x::doLine)));
        parts.put(ACTS, GlacierBook::actCount);
        parts.put(PAST, Books::past);
        return parts;
    }

    private interface OfOne {
        Object at(int a);
    }

    private interface OfTwo {
        Object at(int a, int b);
    }

    private static List<Object> each(int from, int to, OfOne call) {
        List<Object> all = new ArrayList<>();
        for (int a = from; a <= to; a++) {
            int one = a;
            all.add(answer(() -> call.at(one)));
        }
        return all;
    }

    private static List<Object> pairs(int from, int to, OfTwo call) {
        List<Object> all = new ArrayList<>();
        for (int a = from; a <= to; a++) {
            int one = a;
            all.add(each(from, to, b -> call.at(one, b)));
        }
        return all;
    }

    /** Tells each price by the sum before, and by rows that show one of the prices alone. */
    private static Object prices(GlacierBook x) {
        List<Object> all = new ArrayList<>();
        all.add(x.leastPrice());
        all.add(each(0, 1, row -> x.addBand(row, 9, 3)));
        all.add(x.leastPrice());
        all.add(each(1, 4, thickness -> x.addBand(thickness % 2, thickness, 0)));
        all.add(x.leastPrice());
        all.add(x.bestWays());
        all.add(x.setPrices(0, 0, 0));
        return all;
    }

    /** Undoes all that is remembered and looks at something of everything behind each act. */
    private static Object past(GlacierBook x) {
        List<Object> all = new ArrayList<>();
        for (int act = 0; act < 9; act++) {
            all.add(answer(x::undo));
            all.add(List.of(x.actCount(), x.layerCount(), x.boundCount(), x.lineCount(), x.bandCount(0),
                    x.bandCount(1), x.leastPrice(), x.bestWays(), x.won(), x.errors()));
            all.add(each(0, 3, third -> x.iceOf(3 * third + 2)));
            all.add(each(0, 2, third -> x.balance(4 * third)));
            all.add(each(0, 5, band -> x.ageOf(band % 2, band / 2)));
        }
        return all;
    }

    private static Map<String, List<Object>> look(Maker maker) {
        Map<String, List<Object>> look = new LinkedHashMap<>();
        parts().forEach((name, part) -> look.put(name, List.of(part.on(maker.make()))));
        return look;
    }

    /** Tells whether two books answer differently in any part but some. */
    static boolean differ(Maker some, Maker other, String... but) {
        Map<String, List<Object>> ofOther = LOOKS.computeIfAbsent(other, Books::look);
        boolean differ = false;
        for (Map.Entry<String, Act> part : parts().entrySet()) {
            boolean isLookedAt = !Arrays.asList(but).contains(part.getKey());
            differ |= isLookedAt && !List.of(part.getValue().on(some.make())).equals(ofOther.get(part.getKey()));
        }
        return differ;
    }

    /** Looks whether two books answer alike in all parts but some. */
    static void alike(String what, Maker got, Maker due, String... but) {
        Map<String, List<Object>> wanted = LOOKS.computeIfAbsent(due, Books::look);
        parts().forEach((name, part) -> {
            if (!Arrays.asList(but).contains(name.replace(" with an end", ""))) {
                Expect.is(what + ": " + name, List.of(part.on(got.make())), wanted.get(name));
            }
        });
    }
}
