import java.lang.reflect.Constructor;
import java.lang.reflect.Field;
import java.lang.reflect.Method;
import java.lang.reflect.Modifier;
import java.nio.file.Files;
import java.nio.file.Path;
import java.util.Set;
import java.util.TreeSet;
import java.util.regex.Matcher;
import java.util.regex.Pattern;

/** The public face of the document, and what of LANGUAGE.md can be seen from the class and its text. */
final class FaceTest {
    private static final String[] METHODS = {
        "int type 2", "int wipe 1", "int undo 1", "int fault 1", "int person 2", "int deed 2", "int set 2",
        "int round 3", "int journey 3", "int frost 1", "int back 1", "int read 1", "int wool 3", "int dies 1",
        "int cloth 3", "int thorn 1", "int tax 1", "int heaviest 1", "int first 1", "int plan 2", "int light 3",
        "int spare 1", "int home 2", "int seen 3", "int forget 0", "int never 0", "int was 2", "int ask 1",
        "long virtue 4", "int years 3", "int sheet 3", "int lose 1", "int put 4", "int get 3", "int copy 5",
        "int write 2", "int count 1", "long digest 0"};

    public static void main(String[] args) throws Exception {
        face();
        inside();
        text();
        Due.end();
    }

    private static void face() {
        Set<String> due = new TreeSet<>(Set.of(METHODS));
        for (Method m : ShornSins.class.getDeclaredMethods()) {
            if (Modifier.isPrivate(m.getModifiers())) {
                continue;
            }
            boolean ints = true;
            for (Class<?> c : m.getParameterTypes()) {
                ints &= c == int.class;
            }
            String said = m.getReturnType() + " " + m.getName() + " " + m.getParameterCount();
            Due.is("public, of ints: " + said, Modifier.isPublic(m.getModifiers()) && ints ? 1 : 0, 1);
            Due.is("in the document: " + said, due.remove(said) ? 1 : 0, 1);
        }
        Due.is("missing " + due, due.size(), 0);
        int constants = 0;
        for (Field f : ShornSins.class.getDeclaredFields()) {
            constants += Modifier.isPrivate(f.getModifiers()) ? 0 : 1;
        }
        Due.is("constants", constants, 4);
        Due.is("NONE, BAD, NOT, FULL", ShornSins.NONE * 1000 + ShornSins.BAD * 100 + ShornSins.NOT * 10
                + ShornSins.FULL, -1234);
        Constructor<?>[] made = ShornSins.class.getDeclaredConstructors();
        Due.is("constructors", made.length, 1);
        Due.is("public", Modifier.isPublic(made[0].getModifiers()) ? made[0].getParameterCount() : 99, 0);
        Due.is("public final", ShornSins.class.getModifiers(), Modifier.PUBLIC | Modifier.FINAL);
    }

    private static void inside() {
        Set<String> names = new TreeSet<>();
        for (String m : METHODS) {
            names.add(m.split(" ")[1]);
        }
        Class<?>[] classes = ShornSins.class.getDeclaredClasses();
        Due.is("some twelve classes", classes.length <= 11 ? 1 : 0, 1);
        for (Class<?> c : classes) {
            Due.is("static: " + c, Modifier.isStatic(c.getModifiers()) ? 1 : 0, 1);
            int fields = 0;
            for (Field f : c.getDeclaredFields()) {
                fields += Modifier.isStatic(f.getModifiers()) ? 0 : 1;
            }
            Due.is("some twenty fields: " + c, fields <= 20 ? 1 : 0, 1);
            for (Method m : c.getDeclaredMethods()) {
                Due.is("a name of the face: " + m, names.contains(m.getName()) ? 1 : 0, 0);
                Due.is("seven parameters: " + m, m.getParameterCount() <= 7 ? 1 : 0, 1);
            }
        }
        for (Method m : ShornSins.class.getDeclaredMethods()) {
            boolean hidden = Modifier.isPrivate(m.getModifiers());
            Due.is("a name of the face: " + m, hidden && names.contains(m.getName()) ? 1 : 0, 0);
        }
    }

    private static void text() throws Exception {
        String text = Files.readString(Path.of("src/main/java/ShornSins.java"));
        String bare = text.replaceAll("(?s)/\\*.*?\\*/", "").replaceAll("//[^\n]*", "").replaceAll("\"[^\"]*\"", "\"\"");
        for (String word : new String[] {"throw", "throws", "try", "catch", "synchronized", "assert", "package",
            "System\\.(?!arraycopy)", "->", "::", "Exact", "Object", "protected", "double", "float"}) {
            String pattern = word.matches("[a-z]+") ? "\\b" + word + "\\b" : word;
            Due.is("not in the language: " + word, Pattern.compile(pattern).matcher(bare).find() ? 1 : 0, 0);
        }
        Listing listing = new Listing(bare);
        Due.isTrue("the methods are found: " + listing.size(), listing.size() > 100);
        Due.isTrue("methods stay short: " + listing.longest(), listing.longest() <= 60);
        Due.isTrue("calls go at most eight deep: " + listing.deepest(), listing.deepest() <= 8);
        Due.isTrue("a call makes no object:" + listing.makers(), listing.makers().isEmpty());
        Matcher imports = Pattern.compile("\\bimport ([^;]*);").matcher(bare);
        while (imports.find()) {
            Due.is("import " + imports.group(1), imports.group(1).equals("java.util.Arrays") ? 1 : 0, 1);
        }
    }
}
