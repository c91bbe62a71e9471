import java.io.IOException;
import java.lang.management.ManagementFactory;
import java.lang.reflect.Field;
import java.lang.reflect.Method;
import java.lang.reflect.Modifier;
import java.nio.charset.StandardCharsets;
import java.nio.file.Files;
import java.nio.file.Path;
import java.util.ArrayList;
import java.util.List;
import java.util.TreeSet;
import java.util.regex.Matcher;
import java.util.regex.Pattern;

/** What LANGUAGE.md rules out, as far as the bare text and the classes of the program show it; and the room. */
public final class LanguageTest {
    private static final String OWN_EXCEPTIONS = "(IllegalState|IllegalArgument|IndexOutOfBounds|Arithmetic"
            + "|UnsupportedOperation|NoSuchElement|Runtime)?Exception";
    private static final String[] RULED_OUT = {"->", "::", "\\bfinally\\b", "\\bsynchronized\\b", "\\bassert\\b",
        "\\bpackage\\b", "\\bprotected\\b", "\\bstatic \\{", "\\bThread\\b", "\\bSystem\\.(?!arraycopy\\b)",
        "\\w+Exact\\b", "\\b(boolean equals|int hashCode|String toString)\\(",
        "\\bimport (?!java\\.util\\.(Arrays|ArrayList|List|Iterator|NoSuchElementException);)",
        "\"\\s*\\+", "\\+\\s*\"", "[^\\x01-\\x7f]", "\\bArrays\\.(?!(fill|copyOf|copyOfRange)\\b)",
        "\\bextends \\w*Exception\\b", "\\bRandom\\b", "\\bMath\\.random\\b"};

    public static void main(String[] args) throws IOException {
        String program = Files.readString(Path.of("src/main/java/GlacierBook.java"), StandardCharsets.UTF_8);
        String bare = program.replaceAll("(?s)/\\*.*?\\*/", "").replaceAll("//[^\n]*", "");
        String withoutCases = bare.replaceAll("(case [^:;{}]*|default) ->", "");
        for (String pattern : RULED_OUT) {
            Matcher matcher = Pattern.compile(pattern).matcher(withoutCases);
            Expect.is("found " + pattern, matcher.find() ? matcher.group() : "none", "none");
        }
        each("throw [^;]*;", bare, "throw new " + OWN_EXCEPTIONS + "\\((\"[\\x20-\\x7e]*\")?\\);");
        each("catch \\([^)]*\\)", bare, "catch \\(" + OWN_EXCEPTIONS + " \\w+\\)");
        lengths(bare);
        classes();
        room();
        Expect.end("LanguageTest");
    }

    private static void each(String found, String bare, String due) {
        Matcher matcher = Pattern.compile(found).matcher(bare);
        while (matcher.find()) {
            Expect.is(matcher.group(), matcher.group().matches(due), true);
        }
    }

    /** Methods stay short, some sixty lines. */
    private static void lengths(String bare) {
        Matcher head = Pattern.compile("\\n *[\\w\\[\\]<> ]+\\([^;{}()]*\\)[\\s\\w,]*\\{").matcher(bare);
        int methods = 0;
        while (head.find()) {
            if (!head.group().matches("(?s)\\s*(if|for|while|switch|else|do|try|return|catch)\\b.*")) {
                methods++;
                String body = bare.substring(head.start(), end(bare, head.end()));
                Expect.is("lines of " + head.group().strip(), body.strip().lines().count() <= 64, true);
            }
        }
        Expect.is("methods are found", methods >= 51, true);
    }

    private static int end(String bare, int from) {
        int open = 1;
        int at = from;
        while (open > 0 && at < bare.length()) {
            char sign = bare.charAt(at);
            open += sign == '{' ? 1 : sign == '}' ? -1 : 0;
            at++;
        }
        return at;
    }

    private static List<Class<?>> all(Class<?> one) {
        List<Class<?>> all = new ArrayList<>(List.of(one));
        for (Class<?> inside : one.getDeclaredClasses()) {
            all.addAll(all(inside));
        }
        return all;
    }

    private static void classes() {
        List<Class<?>> all = all(GlacierBook.class);
        Expect.is("at most some twelve classes", all.size() <= 13, true);
        TreeSet<String> face = new TreeSet<>();
        for (Method method : GlacierBook.class.getDeclaredMethods()) {
            if (Modifier.isPublic(method.getModifiers())) {
                face.add(method.getName());
            }
        }
        for (Class<?> one : all) {
            boolean isFace = one == GlacierBook.class;
            Expect.is(one + " is public", Modifier.isPublic(one.getModifiers()), isFace);
            int fields = 0;
            for (Field field : one.getDeclaredFields()) {
                boolean isStatic = Modifier.isStatic(field.getModifiers());
                fields += isStatic ? 0 : 1;
                Expect.is(field + " is final or no static one",
                        !isStatic || Modifier.isFinal(field.getModifiers()), true);
            }
            Expect.is("at most some twenty fields in " + one, fields <= 22, true);
            for (Method method : one.getDeclaredMethods()) {
                Expect.is("at most seven parameters of " + method, method.getParameterCount() <= 7, true);
                boolean isHidden = isFace && Modifier.isPrivate(method.getModifiers());
                Expect.is("a name of the face for " + method, isHidden && face.contains(method.getName()), false);
            }
        }
    }

    /** All calls of a run live in one room of 7.3 million fields and elements, of at least 4 bytes. */
    private static void room() {
        var threads = (com.sun.management.ThreadMXBean) ManagementFactory.getThreadMXBean();
        if (!threads.isThreadAllocatedMemorySupported()) {
            return;
        }
        for (String told : new String[] {"orders()", "isSure(2, 3)", "partner(0, 2)", "bestWays()", "follows(0)",
            "low(1, 0)", "lineAt(0)", "orderAt(4)", "phase(4)", "errors()", "fault()", "balance(4)",
            "flow(50, 0, 1, 1)", "read(0, 0, 1)", "layOn(1, 5)", "least(2, 0, 521)", "doLine()", "undo()"}) {
            GlacierBook x = Books.rich();
            for (int layer = 6; layer <= 14; layer++) {
                x.addLayer();
                x.layOn(layer - 1, layer);
            }
            long before = threads.getThreadAllocatedBytes(Thread.currentThread().getId());
            for (int call = 0; call < 400; call++) {
                Books.answer(() -> Books.call(x, told));
            }
            long taken = threads.getThreadAllocatedBytes(Thread.currentThread().getId()) - before;
            Expect.is("there is room for 400 calls " + told, taken < 7300000L * 4, true);
        }
    }
}
