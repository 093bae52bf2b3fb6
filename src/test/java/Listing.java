import java.util.LinkedHashMap;
import java.util.Map;
import java.util.regex.Matcher;
import java.util.regex.Pattern;

/** The methods and constructors of the class as they stand in its text, each with its lines, by its name. */
final class Listing {
    private static final Pattern HEAD =
            Pattern.compile("( {4}| {8})(?!if|for|while|switch|else|do)(?=[A-Za-z]).*?(\\w+)\\([^()]*\\) \\{");
    private static final Pattern CALLED = Pattern.compile("(\\w+)\\(");

    /** Methods of one name stand together here: what is found of a name holds for each of them. */
    private final Map<String, String> bodies = new LinkedHashMap<>();
    private final Map<String, Integer> depths = new LinkedHashMap<>();
    private int longest = 0;

    Listing(String text) {
        String[] lines = text.split("\n");
        for (int i = 0; i < lines.length; i++) {
            Matcher head = HEAD.matcher(lines[i]);
            if (head.matches()) {
                StringBuilder body = new StringBuilder();
                int j = i + 1;
                for (; j < lines.length && !lines[j].equals(head.group(1) + "}"); j++) {
                    body.append(lines[j]).append('\n');
                }
                bodies.merge(head.group(2), body.toString(), String::concat);
                longest = Math.max(longest, j - i + 1);
            }
        }
    }

    int size() {
        return bodies.size();
    }

    int longest() {
        return longest;
    }

    /** Who makes an object, but for constructors, whose names are those of classes. */
    String makers() {
        StringBuilder all = new StringBuilder();
        bodies.forEach((name, body) -> all.append(
                Character.isLowerCase(name.charAt(0)) && body.contains("new ") ? " " + name : ""));
        return all.toString();
    }

    /** How many calls stand open at once at most; far too many if one calls itself by way of another. */
    int deepest() {
        int most = 0;
        for (String name : bodies.keySet()) {
            most = Math.max(most, depth(name));
        }
        return most;
    }

    private int depth(String name) {
        Integer known = depths.get(name);
        if (known != null) {
            return known;
        }
        depths.put(name, 1000);
        int most = 0;
        Matcher called = CALLED.matcher(bodies.get(name));
        while (called.find()) {
            if (called.group(1).equals(name)) {
                // Its like in another class, as with unsettle and become: one level more.
                most = Math.max(most, 1);
            } else if (bodies.containsKey(called.group(1))) {
                most = Math.max(most, depth(called.group(1)));
            }
        }
        depths.put(name, most + 1);
        return most + 1;
    }
}
