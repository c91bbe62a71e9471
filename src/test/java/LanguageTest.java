import java.io.IOException;
import java.nio.charset.StandardCharsets;
import java.nio.file.Files;
import java.nio.file.Path;
import java.util.ArrayList;
import java.util.List;
import java.util.TreeSet;
import java.util.regex.Matcher;
import java.util.regex.Pattern;

/** What LANGUAGE.md rules out, as far as the bare text of the program shows it. */
public final class LanguageTest {
    private static final String[] RULED_OUT = {"->", "::", "\\bcatch\\b", "\\btry\\b", "\\bfinally\\b",
        "\\bsynchronized\\b", "\\bassert\\b", "\\bpackage\\b", "\\bprotected\\b", "static \\{", "\\bThread\\b",
        "\\bSystem\\.(?!arraycopy)", "\\bMath\\.\\w+Exact\\b", "\\bequals\\b", "\\bhashCode\\b", "\\btoString\\b",
        "\\bimport (?!java\\.util\\.(Arrays|NoSuchElementException);)", "\\bstatic (?!final|\\w+ \\w+\\()\\w+ \\w+ ?[=;]",
        "\"\\s*\\+", "\\+\\s*\"", "\\binstanceof\\b", "\\bvar\\b", "[^\\x01-\\x7e]", "\\bwhile\\b", "MAX_VALUE",
        "MIN_VALUE", "\\bArrays\\.(?!fill)", "\\bMath\\.(?!min|max|abs|floorDiv)", "\\bInteger\\.(?!bitCount)"};

    public static void main(String[] args) throws IOException {
        String program = Files.readString(Path.of("src/main/java/GlacierBook.java"), StandardCharsets.UTF_8);
        String bare = program.replaceAll("(?s)/\\*.*?\\*/", "").replaceAll("//[^\n]*", "");
        for (String pattern : RULED_OUT) {
            Matcher matcher = Pattern.compile(pattern).matcher(bare);
            Expect.is("found " + pattern, matcher.find() ? matcher.group() : "none", "none");
        }
        exceptions(bare);
        sizes(bare);
        names(bare);
        newObjects(bare);
        Expect.end("LanguageTest");
    }

    private static void exceptions(String bare) {
        Matcher matcher = Pattern.compile("throw [^;]*;").matcher(bare);
        Pattern allowed = Pattern.compile("throw new (IllegalState|IllegalArgument|IndexOutOfBounds|NoSuchElement)"
                + "Exception\\(\"[\\x20-\\x7e]*\"\\);");
        while (matcher.find()) {
            Expect.is(matcher.group(), allowed.matcher(matcher.group()).matches(), true);
        }
    }

    /** Methods by their heads: at the depth of a class, up to the line that closes them. */
    private static List<String> methods(String bare) {
        List<String> methods = new ArrayList<>();
        Matcher matcher = Pattern.compile("(?ms)^( {4}| {8})(?! |private static final class)[\\w\\[\\] ]*\\([^;{]*\\{$.*?^\\1\\}$")
                .matcher(bare);
        while (matcher.find()) {
            methods.add(matcher.group());
        }
        return methods;
    }

    private static void sizes(String bare) {
        List<String> methods = methods(bare);
        Expect.is("many methods are found", methods.size() > 100, true);
        for (String method : methods) {
            String head = method.substring(0, method.indexOf('{'));
            Expect.is("at most 60 lines: " + head, method.lines().count() <= 60, true);
            Expect.is("at most 7 parameters: " + head, head.split(",").length <= 7 + 2, true);
        }
        int classes = bare.split("\\bclass \\w+ \\{", -1).length - 1;
        Expect.is("at most twelve classes", classes <= 12, true);
    }

    private static void names(String bare) {
        TreeSet<String> face = new TreeSet<>();
        for (var method : GlacierBook.class.getDeclaredMethods()) {
            if (java.lang.reflect.Modifier.isPublic(method.getModifiers())) {
                face.add(method.getName());
            }
        }
        for (String method : methods(bare)) {
            String head = method.substring(0, method.indexOf('('));
            String name = head.substring(head.lastIndexOf(' ') + 1);
            boolean isPublic = head.strip().startsWith("public");
            Expect.is("a name of the face inside: " + name, face.contains(name) && !isPublic, false);
        }
    }

    /** All rows are made by constructors: "new" stands only there, at fields, and behind "throw". */
    private static void newObjects(String bare) {
        for (String method : methods(bare)) {
            String head = method.substring(0, method.indexOf('(')).strip();
            boolean isConstructor = head.matches("(public )?[A-Z]\\w*");
            String body = method.replaceAll("throw new ", "");
            Expect.is("new rows in " + head, body.contains("new ") && !isConstructor, false);
        }
    }
}
