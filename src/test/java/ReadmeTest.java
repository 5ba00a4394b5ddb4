import java.lang.reflect.Method;
import java.nio.file.Files;
import java.nio.file.Path;
import java.util.HashMap;
import java.util.List;
import java.util.Map;
import java.util.TreeSet;
import java.util.regex.Matcher;
import java.util.regex.Pattern;

/** README.md's examples answer as README.md says, and its tables name every call with the refusals of the document. */
public final class ReadmeTest {
    private static final Pattern MADE = Pattern.compile("WingCensus x = new WingCensus\\(\\);");
    private static final Pattern FED = Pattern.compile("for \\(char letter : \"([^\"\\\\]*)\"\\.toCharArray\\(\\)\\) x\\.feed\\(letter\\);");
    private static final Pattern ASKED = Pattern.compile("x\\.(\\w+)\\(([^)]*)\\);\\s+// (-?\\d+|[A-Z]+)(:.*)?");
    private static final Pattern ROW = Pattern.compile("\\| `(\\w+)\\(([^)]*)\\)` \\|.*\\|([^|]*)\\|");
    private static final Pattern PROMISE = Pattern.compile("`int (\\w+)\\([^)]*\\)`: (.*)");
    private static final Pattern REFUSAL = Pattern.compile("\\b(UNKNOWN|OUTSIDE|NOT|FULL)\\b");

    private static final Map<String, Method> CALLS = new HashMap<>();
    private static final TreeSet<String> SHOWN = new TreeSet<>();

    public static void main(String[] args) throws Exception {
        for (Method m : WingCensus.class.getDeclaredMethods()) {
            if (java.lang.reflect.Modifier.isPublic(m.getModifiers())) CALLS.put(m.getName(), m);
        }
        List<String> page = Files.readAllLines(Path.of("README.md"));
        examples(page);
        tables(page);
        Due.end();
    }

    private static void fail(String line, String why) {
        Due.dueSame(why, line, "");
    }

    // ---- the examples

    private static void examples(List<String> page) throws Exception {
        boolean inside = false;
        WingCensus x = null;
        for (String line : page) {
            if (line.startsWith("```")) {
                inside = line.equals("```java");
                x = null;
            } else if (inside && MADE.matcher(line).matches()) {
                x = new WingCensus();
            } else if (inside && x == null) {
                fail(line, "an example that makes no object first");
            } else if (inside) {
                play(x, line);
            }
        }
        Due.dueSame("README.md: the calls that are shown", SHOWN.toString(), new TreeSet<>(CALLS.keySet()).toString());
    }

    private static void play(WingCensus x, String line) throws Exception {
        Matcher fed = FED.matcher(line);
        Matcher asked = ASKED.matcher(line);
        if (fed.matches()) {
            Due.feed(x, fed.group(1));
            SHOWN.add("feed");
        } else if (asked.matches() && CALLS.containsKey(asked.group(1))) {
            Due.due("README.md: " + line.trim(), answer(x, CALLS.get(asked.group(1)), asked.group(2)), number(asked.group(3)));
            SHOWN.add(asked.group(1));
        } else {
            fail(line, "a line of an example that cannot be played");
        }
    }

    private static int answer(WingCensus x, Method call, String written) throws Exception {
        String[] words = written.isEmpty() ? new String[0] : written.split(", ");
        Object[] given = new Object[words.length];
        for (int i = 0; i < words.length; i++) {
            boolean yesOrNo = words[i].equals("true") || words[i].equals("false");
            if (yesOrNo) given[i] = words[i].equals("true"); else given[i] = number(words[i]);
        }
        return (Integer) call.invoke(x, given);
    }

    /** As figures, or by the name of a constant. */
    private static int number(String word) throws Exception {
        if (!Character.isLetter(word.charAt(0))) return Integer.parseInt(word);
        return WingCensus.class.getField(word.replace("WingCensus.", "")).getInt(null);
    }

    // ---- the tables

    private static TreeSet<String> refusals(String words) {
        TreeSet<String> all = new TreeSet<>();
        Matcher m = REFUSAL.matcher(words);
        while (m.find()) all.add(m.group(1));
        return all;
    }

    /** By call, what the document lets it refuse; of a call that refuses nothing, nothing. */
    private static Map<String, TreeSet<String>> promised() throws Exception {
        Map<String, TreeSet<String>> all = new HashMap<>();
        for (String line : Files.readAllLines(Path.of("../shared/DOC.md"))) {
            Matcher m = PROMISE.matcher(line);
            if (m.matches()) all.put(m.group(1), refusals(m.group(2)));
        }
        return all;
    }

    private static void tables(List<String> page) throws Exception {
        Map<String, TreeSet<String>> promised = promised();
        TreeSet<String> rows = new TreeSet<>();
        for (String line : page) {
            Matcher row = ROW.matcher(line);
            if (!row.matches() || !CALLS.containsKey(row.group(1))) continue;
            String name = row.group(1);
            rows.add(name);
            Due.dueSame("README.md: what " + name + " refuses", refusals(row.group(3)).toString(), String.valueOf(promised.get(name)));
            int parameters = row.group(2).isEmpty() ? 0 : row.group(2).split(", ").length;
            Due.due("README.md: parameters of " + name, parameters, CALLS.get(name).getParameterCount());
        }
        Due.dueSame("README.md: the calls that have a row", rows.toString(), new TreeSet<>(CALLS.keySet()).toString());
        constants(page);
    }

    private static void constants(List<String> page) throws Exception {
        for (String name : new String[] {"UNKNOWN", "OUTSIDE", "NOT", "FULL"}) {
            boolean has = false;
            for (String line : page) has |= line.startsWith("| `" + name + "` | " + number(name) + " |");
            Due.due("README.md: the number of " + name, has ? 1 : 0, 1);
        }
    }
}
