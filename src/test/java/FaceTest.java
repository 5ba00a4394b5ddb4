import java.lang.reflect.Constructor;
import java.lang.reflect.Field;
import java.lang.reflect.Method;
import java.lang.reflect.Modifier;
import java.nio.file.Files;
import java.nio.file.Path;
import java.util.TreeSet;
import java.util.regex.Matcher;
import java.util.regex.Pattern;

/** The public face, and those rules of LANGUAGE.md that can be seen from outside or by the words of the source. */
public final class FaceTest {
    private static final String[] FACE = {
        "int feed(int)", "int north()", "int fault()", "int told(int)", "int cell(int,int)", "int person(int,int)", "int lie(int,int)", "int rise(int)",
        "int night(int)", "int thaw()", "int snow()", "int hare(int)", "int pin(int)", "int wind(int)", "int drift(int)", "int undo(int)",
        "int left(int,int)", "int willCount(int)", "int wrongFirst()", "int canLie(int,int)", "int round(int,int,int)", "int touch(int)",
        "int still(int,int)", "int find(int,boolean)", "int fits(int)", "int look()", "int write(int)", "int judge()", "int tear()", "int seed(int)",
        "int keep(int)", "int goBack(int)"};
    private static final String[] CONSTANTS = {"FULL", "NONE", "NOT", "OUTSIDE", "UNKNOWN"};
    private static final String[] RULED_OUT = {"throw", "throws", "try", "catch", "synchronized", "assert", "->", "::", "java\\.io", "java\\.time",
        "Random", "currentTimeMillis", "nanoTime", "Thread", "Exact\\(", "hashCode", "package", "float", "double"};

    private static final java.util.Set<String> LIBRARY = java.util.Set.of("Math.max", "Math.min", "Math.abs", "Math.floorDiv", "Math.floorMod",
        "Integer.bitCount", "Long.bitCount", "Integer.compare", "Long.compare", "System.arraycopy", "Arrays.copyOf", "Arrays.copyOfRange", "Arrays.fill");

    public static void main(String[] args) throws Exception {
        face();
        constants();
        classesInside();
        source();
        Due.end();
    }

    private static String told(Method m) {
        StringBuilder s = new StringBuilder(m.getReturnType() + " " + m.getName() + "(");
        for (Class<?> c : m.getParameterTypes()) s.append(s.charAt(s.length() - 1) == '(' ? "" : ",").append(c);
        return s.append(")").toString();
    }

    private static void face() {
        TreeSet<String> due = new TreeSet<>(java.util.List.of(FACE));
        TreeSet<String> got = new TreeSet<>();
        TreeSet<String> publicNames = new TreeSet<>();
        for (Method m : WingCensus.class.getDeclaredMethods()) {
            if (Modifier.isPrivate(m.getModifiers())) continue;
            got.add((Modifier.isPublic(m.getModifiers()) ? "" : "not public: ") + told(m));
            publicNames.add(m.getName());
        }
        Due.dueSame("the methods", got.toString(), due.toString());
        Due.due("public and final", WingCensus.class.getModifiers() & (Modifier.PUBLIC | Modifier.FINAL), Modifier.PUBLIC | Modifier.FINAL);
        Constructor<?>[] made = WingCensus.class.getDeclaredConstructors();
        Due.due("constructors", made.length, 1);
        Due.due("its parameters", made[0].getParameterCount(), 0);
        for (Method m : WingCensus.class.getDeclaredMethods()) {
            boolean bears = Modifier.isPrivate(m.getModifiers()) && publicNames.contains(m.getName());
            Due.due("a private method named " + m.getName(), bears ? 1 : 0, 0);
            Due.due("parameters of " + m.getName(), m.getParameterCount() > 7 ? 1 : 0, 0);
        }
    }

    private static void constants() {
        TreeSet<String> got = new TreeSet<>();
        for (Field f : WingCensus.class.getDeclaredFields()) {
            int m = f.getModifiers();
            if (!Modifier.isPrivate(m)) got.add(f.getName());
            Due.due("static but not final: " + f.getName(), Modifier.isStatic(m) && !Modifier.isFinal(m) ? 1 : 0, 0);
        }
        Due.dueSame("the constants", got.toString(), new TreeSet<>(java.util.List.of(CONSTANTS)).toString());
        Due.due("NONE", WingCensus.NONE, -1);
        Due.due("UNKNOWN", WingCensus.UNKNOWN, -1000000001);
        Due.due("OUTSIDE", WingCensus.OUTSIDE, -1000000002);
        Due.due("NOT", WingCensus.NOT, -1000000003);
        Due.due("FULL", WingCensus.FULL, -1000000004);
    }

    private static void classesInside() {
        Class<?>[] inside = WingCensus.class.getDeclaredClasses();
        Due.due("more than twelve classes", inside.length > 12 ? 1 : 0, 0);
        for (Class<?> c : inside) {
            Due.due("not static: " + c, Modifier.isStatic(c.getModifiers()) ? 0 : 1, 0);
            Due.due("public: " + c, Modifier.isPublic(c.getModifiers()) ? 1 : 0, 0);
            int fields = 0;
            for (Field f : c.getDeclaredFields()) if (!Modifier.isStatic(f.getModifiers())) fields++;
            Due.due("more than twenty fields: " + c, fields > 20 ? 1 : 0, 0);
            membersInside(c);
        }
    }

    private static void membersInside(Class<?> c) {
        TreeSet<String> publicNames = new TreeSet<>();
        for (String call : FACE) publicNames.add(call.replaceAll("int (\\w+)\\(.*", "$1"));
        for (Method m : c.getDeclaredMethods()) {
            Due.due("the name of a public method: " + m, publicNames.contains(m.getName()) ? 1 : 0, 0);
            Due.due("parameters of " + m, m.getParameterCount() > 7 ? 1 : 0, 0);
        }
        for (Field f : c.getDeclaredFields()) {
            int m = f.getModifiers();
            Due.due("static but not final: " + f, Modifier.isStatic(m) && !Modifier.isFinal(m) ? 1 : 0, 0);
        }
    }

    /** The library's functions that the class calls are those that rule 4 lists. */
    private static void library(String code) {
        Matcher calls = Pattern.compile("\\b([A-Z][a-z]\\w*)\\.(\\w+)").matcher(code.replaceAll("import [^;]*;", ""));
        while (calls.find()) Due.due("the library's " + calls.group(), LIBRARY.contains(calls.group()) ? 1 : 0, 1);
    }

    private static void source() throws Exception {
        String source = Files.readString(Path.of("src/main/java/WingCensus.java"));
        String code = source.replaceAll("(?s)/\\*.*?\\*/", "").replaceAll("//[^\n]*", "");
        for (String word : RULED_OUT) {
            String edge = Character.isLetter(word.charAt(0)) && Character.isLetter(word.charAt(word.length() - 1)) ? "\\b" : "";
            Matcher m = Pattern.compile(edge + word + edge).matcher(code);
            Due.due("ruled out: " + word, m.find() ? 1 : 0, 0);
        }
        library(code);
        Matcher imports = Pattern.compile("import ([^;]*);").matcher(code);
        while (imports.find()) {
            boolean fine = imports.group(1).matches("java\\.util\\.(Arrays|ArrayList|List|Iterator)");
            Due.due("import " + imports.group(1), fine ? 0 : 1, 0);
        }
        int lines = 0;
        for (String line : code.split("\n")) {
            lines = line.matches("( {4}| {8})(private|public) .*\\) \\{") ? 1 : lines + 1;
            if (line.matches(" {4}}| {8}}|}| *")) lines = 0;
            Due.due("a method of more than sixty lines ends at: " + line, lines > 60 ? 1 : 0, 0);
        }
        for (char ch : source.toCharArray()) if (ch > 126) Due.due("a sign above 126", ch, 0);
    }
}
