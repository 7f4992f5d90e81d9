import java.io.IOException;
import java.lang.reflect.Field;
import java.lang.reflect.Method;
import java.lang.reflect.Modifier;
import java.nio.charset.StandardCharsets;
import java.nio.file.Files;
import java.nio.file.Path;
import java.util.ArrayList;
import java.util.List;
import java.util.Map;
import java.util.Set;
import java.util.TreeMap;
import java.util.TreeSet;
import java.util.regex.Matcher;
import java.util.regex.Pattern;

/** The rules of LANGUAGE.md that can be read off the source, line by line; it is started at the project's folder. */
public final class SourceTest {
    private static final Path SOURCE = Path.of("src", "main", "java", "Slicehouse.java");
    private static final String[] FORBIDDEN = {
        "->", "::", "\\bcatch\\b", "\\btry\\b", "\\bfinally\\b", "\\bsynchronized\\b", "\\bassert\\b", "\\bstatic \\{",
        "\\bpackage\\b", "\\bprotected\\b", "\\bvar\\b", "Exact\\(", "MAX_VALUE", "MIN_VALUE", "\\+ \"", "\" \\+", "\\bSystem\\.", "@",
    };

    private SourceTest() {
    }

    public static void main(String[] args) throws IOException {
        List<String> lines = Files.readAllLines(SOURCE, StandardCharsets.US_ASCII);
        Check.due("imports", List.of("import java.util.NoSuchElementException;"), () -> matching(lines, "^import .*"));
        for (String forbidden : FORBIDDEN) {
            Check.due("lines with " + forbidden, List.of(), () -> matching(lines, ".*(" + forbidden + ").*"));
        }
        // What a call makes is kept till the last one: objects are made with the house alone, and for exceptions.
        Check.due("objects made by calls", List.of(), () -> madeByCalls(lines));
        Check.due("long methods", List.of(), () -> longMethods(lines));
        checkDepth(lines);
        Check.due("classes", true, () -> Slicehouse.class.getDeclaredClasses().length <= 11);
        checkClass(Slicehouse.class);
        for (Class<?> inside : Slicehouse.class.getDeclaredClasses()) {
            checkClass(inside);
        }
        Check.end("SourceTest");
    }

    private static String code(String line) {
        int comment = line.indexOf("//");
        String code = comment < 0 ? line : line.substring(0, comment);
        return code.strip().startsWith("/**") || code.strip().startsWith("*") ? "" : code;
    }

    private static List<String> matching(List<String> lines, String regex) {
        Pattern pattern = Pattern.compile(regex);
        List<String> found = new ArrayList<>();
        for (String line : lines) {
            if (pattern.matcher(code(line)).matches()) {
                found.add(line);
            }
        }
        return found;
    }

    private static List<String> madeByCalls(List<String> lines) {
        List<String> made = new ArrayList<>();
        for (String line : matching(lines, ".*\\bnew .*")) {
            boolean isField = line.matches(" +(private )?final .* = new .*");
            boolean isInConstructor = line.matches(" +(cells|progress|course|locks) = new .*");
            if (!isField && !isInConstructor && !line.contains("throw new ")) {
                made.add(line);
            }
        }
        return made;
    }

    private static boolean beginsMethod(String line) {
        return line.matches(" {4,8}[a-zA-Z].*\\(.*\\{") && !line.matches(" +(if|for|while|switch|else)\\b.*");
    }

    /** A method ends with the first closing brace that stands as far in as its first line. */
    private static int endOfMethod(List<String> lines, int begin) {
        String line = lines.get(begin);
        String close = line.substring(0, line.length() - line.stripLeading().length()) + "}";
        int end = begin;
        while (end < lines.size() && !lines.get(end).equals(close)) {
            end++;
        }
        return end;
    }

    private static List<String> longMethods(List<String> lines) {
        List<String> found = new ArrayList<>();
        for (int begin = 0; begin < lines.size(); begin++) {
            if (beginsMethod(lines.get(begin)) && endOfMethod(lines, begin) - begin > 60) {
                found.add(lines.get(begin));
            }
        }
        return found;
    }

    /** The names that stand ahead of a round bracket in each method; methods of one name count as one. */
    private static Map<String, Set<String>> callsByName(List<String> lines) {
        Map<String, Set<String>> calls = new TreeMap<>();
        for (int begin = 0; begin < lines.size(); begin++) {
            if (beginsMethod(lines.get(begin))) {
                String name = lines.get(begin).replaceAll("\\(.*", "").replaceAll(".* ", "");
                Set<String> called = calls.computeIfAbsent(name, any -> new TreeSet<>());
                for (String line : lines.subList(begin + 1, endOfMethod(lines, begin))) {
                    Matcher matcher = Pattern.compile("(\\w+)\\(").matcher(code(line));
                    while (matcher.find()) {
                        called.add(matcher.group(1));
                    }
                }
                called.remove(name);
            }
        }
        return calls;
    }

    /** How many methods are open at most, this one included; a recursion would be far deeper than is allowed. */
    private static int depth(Map<String, Set<String>> calls, String name, int open) {
        int deepest = 0;
        for (String called : calls.getOrDefault(name, Set.of())) {
            if (calls.containsKey(called) && open < 40) {
                deepest = Math.max(deepest, depth(calls, called, open + 1));
            }
        }
        return deepest + 1;
    }

    private static void checkDepth(List<String> lines) {
        Map<String, Set<String>> calls = callsByName(lines);
        for (String name : calls.keySet()) {
            Check.due("calls of " + name + " that are open at once", true, () -> depth(calls, name, 0) <= 8);
        }
    }

    private static void checkClass(Class<?> owner) {
        int fields = 0;
        for (Field field : owner.getDeclaredFields()) {
            boolean isStatic = Modifier.isStatic(field.getModifiers());
            fields += isStatic ? 0 : 1;
            Check.due(field + " is constant if static", true, () -> !isStatic || Modifier.isFinal(field.getModifiers()));
        }
        int count = fields;
        Check.due(owner + " has some twenty fields at most", true, () -> count <= 20);
        for (Method method : owner.getDeclaredMethods()) {
            Check.due(method + " has seven parameters at most", true, () -> method.getParameterCount() <= 7);
        }
    }
}
