import java.lang.reflect.InvocationTargetException;
import java.lang.reflect.Method;
import java.util.ArrayList;
import java.util.HashMap;
import java.util.List;
import java.util.Map;
import java.util.TreeMap;

/** Runs of calls from fixed seeds on the class and on PlainBook; all answers are compared. */
public final class RunsTest {
    private static final int MOST_CALLS = 512;
    /** What each number of a call tells; see number(). */
    private static final Map<String, String> NUMBERS = new TreeMap<>(Map.ofEntries(
            Map.entry("addLayer", ""), Map.entry("least", "point point years"),
            Map.entry("most", "point point years"), Map.entry("takeBack", "bound"),
            Map.entry("follows", "bound"), Map.entry("low", "point point"),
            Map.entry("high", "point point"), Map.entry("ringLength", ""),
            Map.entry("ringAt", "ring"), Map.entry("layerCount", ""),
            Map.entry("boundCount", ""), Map.entry("layOn", "layer layer"),
            Map.entry("takeOff", "layer layer"), Map.entry("isAbove", "layer layer"),
            Map.entry("lineCount", ""), Map.entry("lineAt", "line"), Map.entry("orders", ""),
            Map.entry("orderAt", "place"), Map.entry("phase", "layer"),
            Map.entry("addBand", "row thickness mark"), Map.entry("setPrices", "price price price"),
            Map.entry("tie", "band0 band1"), Map.entry("untie", "row band"),
            Map.entry("bandCount", "row"), Map.entry("leastPrice", ""),
            Map.entry("bestWays", ""), Map.entry("partner", "row band"),
            Map.entry("isSure", "band0 band1"), Map.entry("setDate", "row band age"),
            Map.entry("noDate", "row band"), Map.entry("ageOf", "row band"),
            Map.entry("setZone", "zone area part"), Map.entry("read", "zone year value"),
            Map.entry("noReading", "zone year"), Map.entry("valueOf", "zone year"),
            Map.entry("reason", "zone year"), Map.entry("balance", "year"),
            Map.entry("partBalance", "part year"), Map.entry("lineOf", "year"),
            Map.entry("setCell", "cell height height"), Map.entry("flow", "steps snowline weather weather"),
            Map.entry("iceOf", "cell"), Map.entry("won", ""), Map.entry("type", "bytes"),
            Map.entry("fault", ""), Map.entry("doLine", ""), Map.entry("undo", ""),
            Map.entry("actCount", ""), Map.entry("meanValue", "year"),
            Map.entry("aboveShare", ""), Map.entry("errors", "")));
    private static final String[][] THEMES = {
        {"least", "least", "least", "most", "most", "most", "takeBack", "follows", "low", "high",
            "ringLength", "ringAt", "ringAt", "ringAt", "boundCount", "layerCount", "undo"},
        {"layOn", "layOn", "layOn", "takeOff", "isAbove", "lineCount", "lineAt", "orders",
            "orderAt", "orderAt", "phase", "phase", "aboveShare", "undo"},
        {"addBand", "addBand", "addBand", "setPrices", "tie", "untie", "bandCount", "leastPrice",
            "bestWays", "partner", "partner", "isSure", "isSure", "undo"},
        {"addBand", "setDate", "setDate", "setDate", "noDate", "ageOf", "ageOf", "undo"},
        {"setZone", "read", "read", "noReading", "valueOf", "valueOf", "reason", "balance",
            "partBalance", "lineOf", "meanValue", "undo"},
        {"setCell", "setCell", "flow", "flow", "iceOf", "iceOf", "won", "undo"},
        {"line", "line", "line", "line", "type", "fault", "doLine", "actCount", "undo"},
    };

    private final GlacierBook book = new GlacierBook();
    private final PlainBook plain = new PlainBook();
    private final HashMap<String, Method> ofBook = new HashMap<>();
    private final HashMap<String, Method> ofPlain = new HashMap<>();
    private final int[] trueAges = new int[17];
    private final String name;
    private final List<String> calls = new ArrayList<>();
    private long seed;
    private int wildness;
    private int years;
    private boolean ended = false;

    private RunsTest(int number) {
        name = "run " + number;
        seed = 7919L * number + 12345;
        for (int i = 0; i < 20; i++) {
            next(2);
        }
        for (Method method : GlacierBook.class.getMethods()) {
            ofBook.put(method.getName(), method);
        }
        for (Method method : PlainBook.class.getMethods()) {
            ofPlain.put(method.getName(), method);
        }
        wildness = next(3) == 0 ? 5 : 40;
        years = next(3) == 0 ? 3000 : 12;
        for (int i = 1; i < 17; i++) {
            trueAges[i] = next(2 * years + 1) - years;
        }
    }

    public static void main(String[] args) {
        int runs = args.length > 0 ? Integer.parseInt(args[0]) : 1400;
        for (int number = 0; number < runs; number++) {
            new RunsTest(number).go(number % (THEMES.length + 1));
        }
        Expect.end("RunsTest");
    }

    private void go(int theme) {
        int layers = next(4) == 0 ? 17 : next(10);
        for (int i = 0; i < layers && theme != 4 && theme != 5; i++) {
            call("addLayer");
        }
        List<String> all = new ArrayList<>(NUMBERS.keySet());
        while (calls.size() < MOST_CALLS && !ended) {
            if (theme == THEMES.length || next(12) == 0) {
                any(all.get(next(all.size())));
            } else {
                any(THEMES[theme][next(THEMES[theme].length)]);
            }
        }
    }

    private int next(int below) {
        seed = seed * 6364136223846793005L + 1442695040888963407L;
        return (int) ((seed >>> 33) % below);
    }

    private void any(String what) {
        if (what.equals("line")) {
            typeLine();
            return;
        }
        String told = NUMBERS.get(what);
        String[] kinds = told.isEmpty() ? new String[0] : told.split(" ");
        Object[] numbers = new Object[kinds.length];
        for (int i = 0; i < kinds.length; i++) {
            if (kinds[i].equals("bytes")) {
                numbers[i] = bytes();
            } else {
                numbers[i] = next(wildness) == 0 ? wild(kinds[i]) : number(kinds[i]);
            }
        }
        if (kinds.length == 3 && kinds[2].equals("years") && next(3) > 0) {
            fitYears(what, numbers);
        }
        call(what, numbers);
    }

    /** Years near the ages that this run has in mind: so most bounds fit, and rings are long. */
    private void fitYears(String what, Object[] numbers) {
        int older = (Integer) numbers[0];
        int younger = (Integer) numbers[1];
        if (older >= 0 && older <= 16 && younger >= 0 && younger <= 16) {
            int apart = trueAges[older] - trueAges[younger];
            int loose = next(years + 2) / (1 + next(4)) - (next(8) == 0 ? years / 2 : 0);
            numbers[2] = what.equals("least") ? apart - loose : apart + loose;
        }
    }

    private int number(String kind) {
        switch (kind) {
            case "point": return next(plain.layerCount() + 1);
            case "layer": case "place": return 1 + next(Math.max(1, plain.layerCount())) - (kind.equals("place") ? 1 : 0);
            case "years": return next(5) == 0 ? next(19999) - 9999 : next(2 * years + 1) - years;
            case "bound": return next(next(4) == 0 ? 50 : Math.max(1, plain.boundCount()));
            case "ring": return next(Math.max(1, plain.ringLength()));
            case "line": return next(Math.max(1, plain.lineCount()));
            case "row": return next(2);
            case "band": return next(Math.max(1, Math.min(plain.bandCount(0), plain.bandCount(1)) + 1));
            case "band0": return next(Math.max(1, plain.bandCount(0)));
            case "band1": return next(Math.max(1, plain.bandCount(1)));
            case "thickness": return 1 + next(9);
            case "mark": case "part": return next(4);
            case "price": return next(3) == 0 ? next(21) : next(5);
            case "age": return next(4) == 0 ? next(100000) : next(1000) * next(100);
            case "zone": return next(8);
            case "area": return 1 + next(99);
            case "year": return next(next(2) == 0 ? 2 : 10);
            case "value": return next(1999) - 999;
            case "cell": return next(12);
            case "height": return next(2) == 0 ? next(1000) : next(100);
            case "steps": return 1 + next(next(3) == 0 ? 50 : 4);
            case "snowline": return next(next(2) == 0 ? 2001 : 300);
            case "weather": return next(21);
            default: throw new AssertionError(kind);
        }
    }

    private static final int[] EDGES = {-1, 0, 1, 2, 3, 4, 7, 8, 9, 10, 11, 12, 16, 17, 20, 21, 50, 51,
        99, 100, 999, 1000, 2000, 2001, -999, -1000, 9999, 10000, -9999, -10000, 99999, 100000,
        Integer.MAX_VALUE, Integer.MIN_VALUE, Integer.MIN_VALUE + 1};

    private int wild(String kind) {
        switch (next(3)) {
            case 0: return number(kind) + next(5) - 2;
            default: return EDGES[next(EDGES.length)];
        }
    }

    private long bytes() {
        long bytes = 0;
        int bad = next(25) == 0 ? next(8) : -1;
        for (int place = 0; place < 8; place++) {
            int sign = next(3) == 0 ? 0 : next(4) == 0 ? ' ' : 32 + next(95);
            if (place == bad) {
                sign = next(2) == 0 ? 127 + next(129) : 1 + next(31);
            }
            bytes = bytes << 8 | sign;
        }
        return bytes;
    }

    private void typeLine() {
        String[] names = {"least", "most", "on", "band", "date", "layer"};
        int kind = next(6);
        StringBuilder line = new StringBuilder(next(3) == 0 ? " " : "");
        line.append(next(20) == 0 ? oddWord() : names[kind]);
        int numbers = kind == 5 ? 0 : kind == 2 ? 2 : 3;
        numbers = Math.max(0, numbers + (next(15) == 0 ? next(3) - 1 : 0));
        for (int i = 0; i < numbers; i++) {
            line.append(next(6) == 0 ? "   " : " ");
            line.append(next(20) == 0 ? oddWord() : numberWord(kind, i));
        }
        line.append(next(4) == 0 ? "  " : "");
        for (int at = 0; at < line.length(); at += 8) {
            long bytes = 0;
            for (int i = at; i < Math.min(at + 8, line.length()); i++) {
                bytes = bytes << 8 | line.charAt(i);
            }
            call("type", next(2) == 0 && line.length() - at < 8 ? bytes << 8 : bytes);
        }
        if (next(3) == 0) {
            call("fault");
        }
        if (next(12) > 0) {
            call("doLine");
        }
    }

    private String numberWord(int kind, int place) {
        String[] kinds = {"point point years", "point point years", "layer layer",
            "row thickness mark", "row band age"};
        int number = number(kind == 5 ? "years" : kinds[kind].split(" ")[Math.min(place, kind == 2 ? 1 : 2)]);
        number = next(15) == 0 ? EDGES[next(EDGES.length)] : number;
        String digits = String.valueOf(Math.abs((long) number));
        String sign = number < 0 ? "-" : next(8) == 0 ? "+" : number == 0 && next(8) == 0 ? "-" : "";
        return sign + (next(10) == 0 ? "000000000000".substring(next(12)) : "") + digits;
    }

    private String oddWord() {
        String[] odd = {"2147483647", "2147483648", "-2147483648", "-2147483649", "+2147483648", "+", "-",
            "1a", "a1", "+-1", "--1", "1-", "1.0", "least", "leas", "leastt", "Layer", "layers", "ON", "o",
            "99999999999999999999999999999999999999999", "00000000000000000000000000000000000000000000007"};
        return odd[next(odd.length)];
    }

    private void call(String what, Object... numbers) {
        if (calls.size() >= MOST_CALLS || ended) {
            return;
        }
        StringBuilder told = new StringBuilder(what).append("(");
        for (int i = 0; i < numbers.length; i++) {
            told.append(i == 0 ? "" : ", ").append(numbers[i]);
        }
        calls.add(told.append(")").toString());
        Object got = answer(ofBook.get(what), book, numbers);
        Object due = answer(ofPlain.get(what), plain, numbers);
        Expect.is(name + ", call " + calls.size() + " " + told, got, due);
        if (!got.equals(due)) {
            ended = true;
            System.out.println("the calls: " + calls);
        }
    }

    private static Object answer(Method method, Object on, Object[] numbers) {
        try {
            return method.invoke(on, numbers);
        } catch (InvocationTargetException e) {
            return e.getCause().getClass();
        } catch (IllegalAccessException e) {
            throw new AssertionError(e);
        }
    }
}
