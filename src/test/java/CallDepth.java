import java.util.ArrayList;
import java.util.HashMap;
import java.util.List;
import java.util.Map;
import java.util.Set;
import java.util.TreeSet;
import java.util.regex.Matcher;
import java.util.regex.Pattern;

/**
 * Which methods of the source call which, and how deep. Methods of one name count as one, so the
 * depth that is found may be too great, never too small.
 */
final class CallDepth {
    static final int RECURSION = 1000;

    private static final Pattern HEAD = Pattern.compile(
            "^(    |        )(?!return|throw)(?:(?:public|private|static) )*(?:[\\w\\[\\]]+ )?"
            + "(\\w+)\\([^;]*");
    private static final Pattern CALL = Pattern.compile("\\b(new )?(\\w+)\\(");
    private static final Set<String> WORDS = Set.of("if", "for", "while", "switch", "return");

    private final Map<String, Set<String>> calls = new HashMap<>();
    private final Map<String, Integer> depths = new HashMap<>();
    private final Map<String, String> constructors = new HashMap<>();

    CallDepth(List<String> lines) {
        for (int i = 0; i < lines.size(); i++) {
            Matcher head = HEAD.matcher(lines.get(i));
            if (head.matches() && !WORDS.contains(head.group(2))) {
                int end = i + 1;
                while (!lines.get(end).equals(head.group(1) + "}")) {
                    end++;
                }
                add(head.group(2), String.join("\n", lines.subList(i, end)));
            }
        }
    }

    private void add(String name, String text) {
        String body = text.substring(text.indexOf('{')).replaceAll("//[^\n]*", "");
        Set<String> called = calls.computeIfAbsent(name, key -> new TreeSet<>());
        Matcher call = CALL.matcher(body);
        while (call.find()) {
            if (!WORDS.contains(call.group(2))) {
                called.add(call.group(2));
            }
        }
        if (Character.isUpperCase(name.charAt(0))) {
            constructors.put(name, body);
        }
    }

    int methods() {
        return calls.size();
    }

    /** How many calls are open at once in a call of this name, itself counted. */
    int depthOf(String name) {
        Integer known = depths.get(name);
        if (known != null) {
            return known;
        }
        depths.put(name, RECURSION);
        int depth = 0;
        for (String called : calls.getOrDefault(name, Set.of())) {
            depth = Math.max(depth, depthOf(called));
        }
        depths.put(name, depth + 1);
        return depth + 1;
    }

    /** The bodies of constructors that throw, or call what is not a constructor. */
    List<String> busyConstructors() {
        List<String> busy = new ArrayList<>();
        for (String name : constructors.keySet()) {
            boolean callsMethods = false;
            for (String called : calls.get(name)) {
                callsMethods |= Character.isLowerCase(called.charAt(0));
            }
            if (callsMethods || constructors.get(name).contains("throw")) {
                busy.add(name);
            }
        }
        return busy;
    }

    Set<String> names() {
        return calls.keySet();
    }
}
