import java.io.IOException;
import java.nio.file.Files;
import java.nio.file.Path;
import java.util.ArrayDeque;
import java.util.ArrayList;
import java.util.Deque;
import java.util.HashMap;
import java.util.List;
import java.util.Map;
import java.util.Set;
import java.util.TreeMap;
import java.util.TreeSet;
import java.util.regex.Matcher;
import java.util.regex.Pattern;

/**
 * What LANGUAGE.md's rules 8 and 11 count, by the source's own lines: parameters, a method's
 * lines, classes, fields, and how deep calls go. Methods of one name count as one.
 */
public final class RulesTest {
    private static final int MOST_PARAMETERS = 7;
    private static final int MOST_LINES = 60;
    private static final int MOST_CLASSES = 12;
    private static final int MOST_FIELDS = 20;
    private static final int MOST_DEEP = 8;
    private static final Pattern METHOD = Pattern.compile(
            "(?m)^ {4}(?: {4})?(?:(?:public|private|static|final) )*[\\w\\[\\]]+ (\\w+)\\(([^)]*)\\)"
            + "[^;{]*\\{$");
    private static final Pattern CLASS = Pattern.compile(
            "(?m)^( *)(?:(?:public|private|static|final) )*class (\\w+) \\{$");
    private static final Pattern FIELD = Pattern.compile(
            "(?m)^( *)(?:(?:private|final) )*[\\w\\[\\]]+ \\w+ = [^;]+;$");
    private static final Pattern CALLED = Pattern.compile("\\b(\\w+)\\(");

    private final Map<String, Set<String>> calls = new TreeMap<>();
    private final Map<String, Integer> group = new HashMap<>();
    private final List<List<String>> groups = new ArrayList<>();
    private final Map<String, Integer> number = new HashMap<>();
    private final Map<String, Integer> lowest = new HashMap<>();
    private final Deque<String> open = new ArrayDeque<>();
    private final Map<Integer, Integer> depths = new HashMap<>();
    private int wrong;

    private void atMost(String what, int got, int most) {
        if (got > most) {
            wrong++;
            System.out.println(what + ": " + got + ", at most " + most);
        }
    }

    private void same(String what, int got, int want) {
        if (got != want) {
            wrong++;
            System.out.println(what + ": " + got + ", due is " + want);
        }
    }

    private static String withoutComments(String source) {
        return source.replaceAll("(?s)/\\*.*?\\*/", "").replaceAll("//[^\n]*", "")
                .replaceAll("\"[^\"\n]*\"", "\"\"");
    }

    /** From a brace's place on, behind the brace that closes it. */
    private static int behindBrace(String text, int from) {
        int depth = 0;
        for (int i = from; i < text.length(); i++) {
            if (text.charAt(i) == '{') {
                depth++;
            } else if (text.charAt(i) == '}') {
                depth--;
                if (depth == 0) {
                    return i + 1;
                }
            }
        }
        return text.length();
    }

    private void methods(String text) {
        Map<String, String> bodies = new TreeMap<>();
        Matcher m = METHOD.matcher(text);
        while (m.find()) {
            int brace = m.end() - 1;
            String body = text.substring(brace, behindBrace(text, brace));
            bodies.merge(m.group(1), body, String::concat);
            atMost("lines of " + m.group(1), body.split("\n").length, MOST_LINES);
            String parameters = m.group(2).trim();
            atMost("parameters of " + m.group(1),
                    parameters.isEmpty() ? 0 : parameters.split(",").length, MOST_PARAMETERS);
        }
        for (Map.Entry<String, String> method : bodies.entrySet()) {
            Set<String> called = new TreeSet<>();
            Matcher c = CALLED.matcher(method.getValue());
            while (c.find()) {
                if (bodies.containsKey(c.group(1))) {
                    called.add(c.group(1));
                }
            }
            calls.put(method.getKey(), called);
        }
    }

    private void classes(String text) {
        int many = 0;
        Matcher m = CLASS.matcher(text);
        while (m.find()) {
            many++;
            int brace = m.end() - 1;
            String body = text.substring(brace, behindBrace(text, brace));
            int fields = 0;
            Matcher f = FIELD.matcher(body);
            while (f.find()) {
                if (f.group(1).length() == m.group(1).length() + 4) {
                    fields++;
                }
            }
            atMost("fields of " + m.group(2), fields, MOST_FIELDS);
        }
        atMost("classes", many, MOST_CLASSES);
        same("a class is found", many > 0 ? 1 : 0, 1);
    }

    /** Methods that call one another are put into one group (Tarjan's way). */
    private void putIntoGroups(String method) {
        number.put(method, number.size());
        lowest.put(method, number.get(method));
        open.push(method);
        for (String called : calls.get(method)) {
            if (!number.containsKey(called)) {
                putIntoGroups(called);
                lowest.merge(method, lowest.get(called), Math::min);
            } else if (open.contains(called)) {
                lowest.merge(method, number.get(called), Math::min);
            }
        }
        if (lowest.get(method).equals(number.get(method))) {
            List<String> members = new ArrayList<>();
            String member;
            do {
                member = open.pop();
                group.put(member, groups.size());
                members.add(member);
            } while (!member.equals(method));
            groups.add(members);
        }
    }

    /** How many calls stand open at once, a group counted as one. */
    private int depthOf(int of) {
        if (depths.containsKey(of)) {
            return depths.get(of);
        }
        int deepest = 0;
        for (String member : groups.get(of)) {
            for (String called : calls.get(member)) {
                if (group.get(called) != of) {
                    deepest = Math.max(deepest, depthOf(group.get(called)));
                }
            }
        }
        depths.put(of, deepest + 1);
        return deepest + 1;
    }

    private void depth() {
        for (String method : calls.keySet()) {
            if (!number.containsKey(method)) {
                putIntoGroups(method);
            }
        }
        for (String method : calls.keySet()) {
            atMost("calls from " + method + " on", depthOf(group.get(method)), MOST_DEEP);
        }
    }

    /** The methods that call one another are the grammar's, whose depth the text's limit keeps. */
    private void recursion() {
        for (List<String> members : groups) {
            if (members.size() > 1) {
                Set<String> got = new TreeSet<>(members);
                Set<String> want = new TreeSet<>(Set.of("readExpr", "readAnd", "readNot", "readSum",
                        "readProduct", "readPart"));
                same("methods that call one another are the grammar's: " + got,
                        got.equals(want) ? 1 : 0, 1);
            }
        }
    }

    public static void main(String[] args) throws IOException {
        RulesTest test = new RulesTest();
        String text = withoutComments(
                Files.readString(Path.of(args[0], "src/main/java/RoundCoracles.java")));
        test.classes(text);
        test.methods(text);
        test.same("methods of the face are found", test.calls.containsKey("watch")
                && test.calls.get("watch").contains("addPlaces") ? 1 : 0, 1);
        test.depth();
        test.recursion();
        System.out.println(test.wrong == 0
                ? "the rules' counts hold (" + test.calls.size() + " methods)"
                : test.wrong + " counts are broken");
        System.exit(test.wrong == 0 ? 0 : 1);
    }
}
