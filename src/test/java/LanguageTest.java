import java.io.IOException;
import java.nio.file.Files;
import java.nio.file.Path;
import java.util.ArrayDeque;
import java.util.Deque;
import java.util.LinkedHashMap;
import java.util.Map;
import java.util.Set;
import java.util.TreeSet;
import java.util.regex.Matcher;
import java.util.regex.Pattern;

/** The text of the class keeps those rules of LANGUAGE.md that can be read off it. */
public final class LanguageTest {
    private static final int MOST_LINES = 60;
    private static final int MOST_DEPTH = 6;
    private static final int MOST_FIELDS = 40;

    private static final Set<String> FORBIDDEN = Set.of(
            "package", "import", "class", "interface", "enum", "record", "extends", "implements",
            "float", "double", "null", "throw", "throws", "try", "catch", "finally", "synchronized",
            "assert", "instanceof", "this", "super", "native", "volatile", "protected", "var");

    private static final Pattern WORD = Pattern.compile("[A-Za-z_]\\w*");
    private static final Pattern ARRAY_FIELD = Pattern.compile(
            "(?m)^    private final \\w+\\[\\] \\w+ = new \\w+\\[\\w+\\];$");
    private static final Pattern FIELD = Pattern.compile("(?m)^    private (?!static)[^(]*;$");
    private static final Pattern METHOD = Pattern.compile(
            "(?m)^    (?:public|private) (?:static )?(?:\\w+ )?(\\w+)\\([^)]*\\) \\{\n(?s:.*?)^    \\}$");
    // After if, for and switch there is a space, after the name of a method there is none.
    private static final Pattern CALL = Pattern.compile("(\\w+)\\(");

    private static final Map<String, String> METHODS = new LinkedHashMap<>();

    private LanguageTest() {
    }

    public static void main(String[] args) throws IOException {
        String source = Files.readString(Path.of("src/main/java/ModelDesk.java"));
        String text = source.replaceAll("(?s)/\\*.*?\\*/", "").replaceAll("//[^\n]*", "");
        String head = "public final class ModelDesk {\n";
        Due.by("rule 1: one class, public and final");
        Due.is("the class line comes first", text.strip().startsWith(head), true);
        String body = text.substring(text.indexOf(head) + head.length());
        words(body);
        arrays(body);
        methods(body);
        nesting(body);
        depth();
        Due.end();
    }

    private static void words(String body) {
        Due.by("rules 1, 2, 3 and 6: words that the language leaves out");
        Matcher word = WORD.matcher(body);
        Set<String> words = new TreeSet<>();
        while (word.find()) {
            words.add(word.group());
        }
        for (String each : words) {
            Due.is(each, FORBIDDEN.contains(each), false);
            boolean capital = Character.isUpperCase(each.charAt(0));
            boolean constant = each.equals(each.toUpperCase());
            Due.is(each + " names a class", capital && !constant && !each.equals("ModelDesk"), false);
        }
        for (String mark : new String[] {"\"", "->", "::", "@", ".", "\\u"}) {
            Due.is(mark, body.contains(mark), false);
        }
    }

    private static void arrays(String body) {
        Due.by("rules 4 and 5: arrays are made in the initialisers of fields that are not static");
        int made = body.split("\\bnew\\b", -1).length - 1;
        Due.is("new in initialisers", (int) ARRAY_FIELD.matcher(body).results().count(), made);
        Due.by("rule 10: at most some forty fields");
        Due.is("fields", FIELD.matcher(body).results().count() <= MOST_FIELDS, true);
    }

    private static void methods(String body) {
        Due.by("rule 10: methods stay short");
        Matcher method = METHOD.matcher(body);
        while (method.find()) {
            Due.is(method.group(1) + " has a name of its own",
                    METHODS.put(method.group(1), afterHead(method.group())) == null, true);
            int length = method.group().split("\n").length;
            Due.is(method.group(1) + " is short", length <= MOST_LINES, true);
        }
        int constructors = ModelDesk.class.getDeclaredConstructors().length;
        int methods = ModelDesk.class.getDeclaredMethods().length;
        Due.is("methods that were read", METHODS.size(), constructors + methods);
    }

    private static String afterHead(String method) {
        return method.substring(method.indexOf('\n'));
    }

    private static void nesting(String body) {
        Due.by("rule 10: no call stands inside the arguments of another call");
        Deque<Boolean> open = new ArrayDeque<>();
        int inside = 0;
        for (int i = 0; i < body.length(); i++) {
            if (body.charAt(i) == '(') {
                boolean call = METHODS.containsKey(wordBefore(body, i));
                Due.is("a call inside a call at " + wordBefore(body, i), call && inside > 0, false);
                open.push(call);
                inside += call ? 1 : 0;
            } else if (body.charAt(i) == ')') {
                inside -= open.pop() ? 1 : 0;
            }
        }
    }

    private static String wordBefore(String body, int end) {
        int begin = end;
        while (begin > 0 && Character.isJavaIdentifierPart(body.charAt(begin - 1))) {
            begin--;
        }
        return body.substring(begin, end);
    }

    private static void depth() {
        Due.by("rules 3, 8 and 10: own methods alone, no recursion, six deep");
        for (String name : METHODS.keySet()) {
            Due.is(name + " goes at most six deep", depth(name, 1) <= MOST_DEPTH, true);
        }
    }

    /** How deep calls go from this method; one that calls itself ends one beyond what is allowed. */
    private static int depth(String name, int level) {
        int most = level;
        Matcher call = CALL.matcher(METHODS.get(name));
        while (call.find() && most <= MOST_DEPTH) {
            boolean own = METHODS.containsKey(call.group(1));
            Due.is(call.group(1) + " is a method of the class", own, true);
            most = own ? Math.max(most, depth(call.group(1), level + 1)) : most;
        }
        return most;
    }
}
