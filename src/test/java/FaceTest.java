import java.lang.reflect.Constructor;
import java.lang.reflect.Field;
import java.lang.reflect.Method;
import java.lang.reflect.Modifier;
import java.util.Arrays;
import java.util.List;
import java.util.TreeSet;
import java.util.stream.Collectors;

/** The face of the class, and promise 1. */
public final class FaceTest {
    private static final List<String> METHODS = List.of(
            "int addLayer() ISE",
            "int least(int,int,int) IOOBE,IAE,ISE",
            "int most(int,int,int) IOOBE,IAE,ISE",
            "int takeBack(int) IOOBE,ISE",
            "boolean follows(int) IOOBE,ISE",
            "int low(int,int) IOOBE,NSEE",
            "int high(int,int) IOOBE,NSEE",
            "int ringLength() ",
            "int ringAt(int) IOOBE",
            "int layerCount() ",
            "int boundCount() ",
            "int layOn(int,int) IOOBE,IAE,ISE",
            "int takeOff(int,int) IOOBE,NSEE",
            "boolean isAbove(int,int) IOOBE",
            "int lineCount() ",
            "int lineAt(int) IOOBE",
            "long orders() ISE",
            "int orderAt(int) IOOBE",
            "int phase(int) IOOBE",
            "int addBand(int,int,int) IOOBE,IAE,ISE",
            "int setPrices(int,int,int) IAE",
            "int tie(int,int) IOOBE,ISE",
            "int untie(int,int) IOOBE,NSEE",
            "int bandCount(int) IOOBE",
            "int leastPrice() ",
            "long bestWays() ",
            "int partner(int,int) IOOBE",
            "boolean isSure(int,int) IOOBE",
            "int setDate(int,int,int) IOOBE,IAE,ISE",
            "int noDate(int,int) IOOBE,NSEE",
            "int ageOf(int,int) IOOBE,NSEE",
            "int setZone(int,int,int) IOOBE,IAE",
            "int read(int,int,int) IOOBE,IAE",
            "int noReading(int,int) IOOBE,NSEE",
            "int valueOf(int,int) IOOBE,NSEE",
            "int reason(int,int) IOOBE,NSEE",
            "int balance(int) IOOBE,NSEE",
            "int partBalance(int,int) IOOBE,NSEE",
            "int lineOf(int) IOOBE,NSEE",
            "int setCell(int,int,int) IOOBE,IAE",
            "int flow(int,int,int,int) IAE",
            "int iceOf(int) IOOBE",
            "int won() ",
            "int type(long) IAE,ISE",
            "int fault() ",
            "int doLine() IAE,IOOBE,ISE",
            "int undo() ISE",
            "int actCount() ",
            "double meanValue(int) IOOBE,NSEE",
            "float aboveShare() ",
            "int errors() ");

    public static void main(String[] args) {
        face();
        newObject();
        Expect.end("FaceTest");
    }

    private static void face() {
        Expect.is("NONE", GlacierBook.NONE, -1);
        Expect.is("READ", GlacierBook.READ, 0);
        Expect.is("BETWEEN", GlacierBook.BETWEEN, 1);
        Expect.is("FROM_BELOW", GlacierBook.FROM_BELOW, 2);
        Expect.is("FROM_ABOVE", GlacierBook.FROM_ABOVE, 3);
        TreeSet<String> methods = new TreeSet<>();
        for (Method method : GlacierBook.class.getDeclaredMethods()) {
            if (!Modifier.isPrivate(method.getModifiers())) {
                methods.add(told(method));
            }
        }
        Expect.is("the methods", methods, new TreeSet<>(METHODS));
        TreeSet<String> fields = new TreeSet<>();
        for (Field field : GlacierBook.class.getDeclaredFields()) {
            if (!Modifier.isPrivate(field.getModifiers())) {
                fields.add(Modifier.toString(field.getModifiers()) + " " + field.getType() + " "
                        + field.getName());
            }
        }
        Expect.is("the constants", fields, new TreeSet<>(List.of("public static final int NONE",
                "public static final int READ", "public static final int BETWEEN",
                "public static final int FROM_BELOW", "public static final int FROM_ABOVE")));
        Constructor<?>[] constructors = GlacierBook.class.getDeclaredConstructors();
        Expect.is("the constructors", constructors.length, 1);
        Expect.is("the constructor's parameters", constructors[0].getParameterCount(), 0);
        Expect.is("the constructor", constructors[0].getModifiers(), Modifier.PUBLIC);
        Expect.is("the class", GlacierBook.class.getModifiers(), Modifier.PUBLIC | Modifier.FINAL);
        Expect.is("above the class", GlacierBook.class.getSuperclass(), Object.class);
        Expect.is("beside the class", GlacierBook.class.getInterfaces().length, 0);
    }

    private static String told(Method method) {
        String parameters = Arrays.stream(method.getParameterTypes()).map(Class::getName)
                .collect(Collectors.joining(","));
        String exceptions = Arrays.stream(method.getExceptionTypes()).map(FaceTest::shortName)
                .collect(Collectors.joining(","));
        return method.getReturnType() + " " + method.getName() + "(" + parameters + ") "
                + exceptions;
    }

    private static String shortName(Class<?> exception) {
        return exception.getSimpleName().replaceAll("[a-z]", "");
    }

    /** Promise 1. */
    private static void newObject() {
        GlacierBook x = new GlacierBook();
        Expect.is("layers of a new book", x.layerCount(), 0);
        Expect.is("bounds of a new book", x.boundCount(), 0);
        Expect.is("low of the present", x.low(0, 0), 0);
        Expect.is("high of the present", x.high(0, 0), 0);
        Expect.noLayer("low(1, 0) without layers", () -> x.low(1, 0));
        Expect.is("ring of a new book", x.ringLength(), 0);
        Expect.noIndex("ringAt(0) of a new book", () -> x.ringAt(0));
        Expect.is("lines of a new book", x.lineCount(), 0);
        Expect.is("orders without layers", x.orders(), 1L);
        Expect.is("bands of the row 0", x.bandCount(0), 0);
        Expect.is("bands of the row 1", x.bandCount(1), 0);
        Expect.is("leastPrice without bands", x.leastPrice(), 0);
        Expect.is("bestWays without bands", x.bestWays(), 1L);
        for (int year = 0; year < 10; year++) {
            int y = year;
            Expect.nothingThere("balance(" + y + ")", () -> x.balance(y));
        }
        for (int cell = 0; cell < 12; cell++) {
            Expect.is("ice of a new book", x.iceOf(cell), 0);
        }
        Expect.is("won of a new book", x.won(), 0);
        Expect.is("the empty text", x.type(0L), 0);
        Expect.is("fault of the empty text", x.fault(), 0);
        Expect.is("acts of a new book", x.actCount(), 0);
        Expect.badState("undo of a new book", x::undo);
        Expect.is("aboveShare without layers", x.aboveShare(), 0.0f);
        Expect.is("errors of a new book", x.errors(), 0);
        Expect.is("the prices at first", x.setPrices(0, 0, 0), 9);
        for (int zone = 0; zone < 8; zone++) {
            Expect.is("the area at first", x.setZone(zone, 5, 1), 1);
        }
        GlacierBook other = new GlacierBook();
        Expect.is("acts of another book", other.actCount(), 0);
    }
}
