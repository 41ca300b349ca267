import java.nio.file.Files;
import java.nio.file.Path;
import java.util.ArrayList;
import java.util.HashMap;
import java.util.LinkedHashMap;
import java.util.List;
import java.util.Map;
import java.util.Set;
import java.util.TreeSet;
import java.util.regex.Matcher;
import java.util.regex.Pattern;

/**
 * How deep calls go (rules 8 and 11 of LANGUAGE.md), by the source's own text.
 * Methods of the same name count as one, so that what is found here is never too low.
 */
public final class DepthTest {
    private static final int MOST_DEEP = 8;
    private static final Pattern METHOD = Pattern.compile(
        "^( {4}| {8})(?:(?:public|private|static|final) )*(?:(?:int|long|boolean|void|int\\[\\]) )?(\\w+)\\([^)]*\\) \\{$");
    private static final Pattern CALL = Pattern.compile("(new )?\\b([A-Za-z]\\w*)\\(");
    private static final Set<String> NO_METHODS = Set.of("if", "for", "while", "switch");

    private final Map<String, Set<String>> calls = new LinkedHashMap<>();
    private final Map<String, Set<String>> reached = new HashMap<>();
    private final Map<String, Integer> depths = new HashMap<>();

    public static void main(String[] args) throws Exception {
        String whole = Files.readString(Path.of(args.length > 0 ? args[0] : "src/main/java/BellHammer.java"));
        DepthTest test = new DepthTest();
        test.read(whole);
        test.look();
        Check.close();
    }

    private void read(String whole) {
        String code = whole.replaceAll("(?s)/\\*.*?\\*/", " ").replaceAll("//[^\n]*", " ")
            .replaceAll("'.'", "'s'").replaceAll("\"[^\"]*\"", "\"\"");
        String[] lines = code.split("\n");
        for (int i = 0; i < lines.length; i++) {
            Matcher m = METHOD.matcher(lines[i]);
            if (m.find() && !NO_METHODS.contains(m.group(2))) {
                Set<String> its = calls.computeIfAbsent(m.group(2), name -> new TreeSet<>());
                for (i++; i < lines.length && !lines[i].equals(m.group(1) + "}"); i++) {
                    Matcher call = CALL.matcher(lines[i]);
                    while (call.find()) {
                        its.add(call.group(2));
                    }
                }
            }
        }
        for (Set<String> its : calls.values()) {
            its.retainAll(calls.keySet());
        }
        for (String name : calls.keySet()) {
            reached.put(name, reach(name));
        }
    }

    /** All that is called by this one, at once or by what it calls. */
    private Set<String> reach(String from) {
        Set<String> found = new TreeSet<>();
        List<String> todo = new ArrayList<>(calls.get(from));
        while (!todo.isEmpty()) {
            String name = todo.remove(todo.size() - 1);
            if (found.add(name)) {
                todo.addAll(calls.get(name));
            }
        }
        return found;
    }

    private boolean isSameRecursion(String one, String other) {
        return one.equals(other) || reached.get(one).contains(other) && reached.get(other).contains(one);
    }

    /** Calls that stand open at once at most, those of one recursion counting as one. */
    private int depth(String name) {
        Integer known = depths.get(name);
        if (known != null) {
            return known;
        }
        int below = 0;
        for (String one : calls.keySet()) {
            if (isSameRecursion(one, name)) {
                for (String called : calls.get(one)) {
                    below = isSameRecursion(called, name) ? below : Math.max(below, depth(called));
                }
            }
        }
        depths.put(name, below + 1);
        return below + 1;
    }

    private void look() {
        Check.due("methods are found", calls.size() > 60, true);
        Set<String> recursive = new TreeSet<>();
        for (String name : calls.keySet()) {
            int depth = depth(name);
            Check.due("eight deep at most: " + name + " goes " + depth, depth <= MOST_DEEP, true);
            if (reached.get(name).contains(name)) {
                recursive.add(name);
            }
        }
        Set<String> known = Set.of("readTest", "readBoth", "readFact", "readSum", "readProduct", "readPart", "readPair", "goOn", "blowsFrom");
        // Each of these carries its depth, and refuses what would go deeper than seven levels.
        Check.due("recursion only where its depth is known, not in " + recursive, known.equals(recursive), true);
    }
}
