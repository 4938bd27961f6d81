import java.io.IOException;
import java.nio.file.Files;
import java.nio.file.Path;
import java.util.Map;
import java.util.Set;
import java.util.TreeMap;
import java.util.TreeSet;
import java.util.regex.Matcher;
import java.util.regex.Pattern;

/** The program's text keeps to LANGUAGE.md, as far as a text without its meaning can tell. */
public final class LanguageTest {
    private static final Path PROGRAM = Path.of("src/main/java/TailVectors.java");
    private static final int MOST_LINES = 60;
    private static final int MOST_CLASSES = 12;
    private static final int MOST_CALLS_DEEP = 8;
    private static final Pattern METHOD = Pattern.compile(
        "(?m)^( {4}| {8})(?! |if\\b|for\\b|while\\b|switch\\b)(?:[\\w\\[\\]]+ )*(\\w+)\\(([^)]*)\\) \\{$");

    private final Check check = new Check();
    private final String code;

    private LanguageTest(String code) {
        this.code = code;
    }

    public static void main(String[] args) throws IOException {
        LanguageTest test = new LanguageTest(withoutComments(Files.readString(PROGRAM)));
        test.classes();
        test.types();
        test.library();
        test.statements();
        test.lengths();
        test.depth();
        test.check.end();
    }

    private static String withoutComments(String text) {
        return text.replaceAll("(?s)/\\*.*?\\*/", "").replaceAll("//[^\n]*", "");
    }

    private int many(String pattern) {
        Matcher matcher = Pattern.compile(pattern).matcher(code);
        int many = 0;
        while (matcher.find()) {
            many++;
        }
        return many;
    }

    private void none(String what, String pattern) {
        Matcher matcher = Pattern.compile(pattern).matcher(code);
        check.that(what + ": " + (matcher.reset().find() ? matcher.group() : ""), !matcher.reset().find());
    }

    private void classes() {
        check.topic("rules 1 and 2");
        check.due("public classes", many("\\bpublic\\s+(final\\s+)?class\\b"), 1);
        check.that("at most some twelve classes", many("\\b(class|record|enum|interface)\\s+\\w") <= MOST_CLASSES);
        none("a package", "\\bpackage\\b");
        none("a lambda", "->");
        none("a method reference", "::");
        none("a class of its own inside that is not static", "(?m)^ +(private |final )*class\\b");
        none("a protected member", "\\bprotected\\b");
    }

    private void types() {
        check.topic("rules 3 and 5");
        none("an array of three dimensions", "\\[\\s*\\]\\s*\\[\\s*\\]\\s*\\[");
        none("a static field that is not final", "(?m)\\bstatic (?!final\\b)[\\w\\[\\]<>]+ \\w+( =|;)");
        none("a static initialiser block", "\\bstatic\\s*\\{");
        none("a character above 127", "[^\\x00-\\x7f]");
        none("an object as such", "\\bObject\\b");
    }

    private void library() {
        check.topic("rule 4");
        none("an import", "(?m)^import (?!java\\.util\\.(Arrays|ArrayList|List|Iterator);).*$");
        none("a call of Arrays", "\\bArrays\\.(?!copyOf\\b|copyOfRange\\b|fill\\b)\\w+");
        none("a call of Math", "\\bMath\\.(?!max\\b|min\\b|abs\\b|floorDiv\\b|floorMod\\b)\\w+");
        none("a call of System", "\\bSystem\\.(?!arraycopy\\b)\\w+");
        none("an exact one", "\\w+Exact\\b");
    }

    private void statements() {
        check.topic("rules 6 and 9");
        none("a statement", "\\b(throw|throws|try|catch|finally|synchronized|assert)\\b");
        none("equals, hashCode or toString", "\\b(equals|hashCode|toString)\\b");
        none("a loop without an end", "while \\(true\\)|for \\(;;\\)|for \\([^;]*;\\s*;");
    }

    /** The text of a method or constructor, from its head to the brace that ends it. */
    private String textOf(Matcher method) {
        return code.substring(method.start(), code.indexOf("\n" + method.group(1) + "}", method.end()));
    }

    private void lengths() {
        check.topic("rule 11");
        Matcher method = METHOD.matcher(code);
        int methods = 0;
        while (method.find()) {
            methods++;
            int lines = textOf(method).split("\n").length;
            check.that(method.group(2) + " has " + lines + " lines", lines <= MOST_LINES);
            check.that(method.group(2) + " has too many parameters", method.group(3).split(",").length <= 7);
        }
        check.that("the methods are found: " + methods, methods > 50);
    }

    /** Methods of one name count as one that calls what any of them calls. */
    private void depth() {
        check.topic("rules 8 and 11");
        Map<String, Set<String>> calls = new TreeMap<>();
        Matcher method = METHOD.matcher(code);
        while (method.find()) {
            calls.computeIfAbsent(method.group(2), name -> new TreeSet<>())
                .addAll(calledIn(code.substring(method.end(), method.start() + textOf(method).length())));
        }
        check.that("calls are found", calls.getOrDefault("push", Set.of()).contains("rowWith"));
        for (String name : calls.keySet()) {
            int deep = deep(name, calls, new TreeSet<>());
            check.that(name + " goes " + deep + " calls deep", deep <= MOST_CALLS_DEEP);
        }
    }

    private static Set<String> calledIn(String body) {
        Set<String> called = new TreeSet<>();
        Matcher call = Pattern.compile("\\b(\\w+)\\(").matcher(body);
        while (call.find()) {
            called.add(call.group(1));
        }
        return called;
    }

    /** How many calls stand open at once below a method; far too many if it comes back to itself. */
    private static int deep(String name, Map<String, Set<String>> calls, Set<String> open) {
        if (!calls.containsKey(name)) {
            return 0;
        }
        if (!open.add(name)) {
            return 1000;
        }
        int deepest = 0;
        for (String called : calls.get(name)) {
            deepest = Math.max(deepest, deep(called, calls, open));
        }
        open.remove(name);
        return deepest + 1;
    }
}
