import java.lang.reflect.Constructor;
import java.lang.reflect.Field;
import java.lang.reflect.Method;
import java.lang.reflect.Modifier;
import java.nio.charset.StandardCharsets;
import java.nio.file.Files;
import java.nio.file.Path;
import java.util.Set;
import java.util.TreeSet;
import java.util.regex.Matcher;
import java.util.regex.Pattern;

/** The document's face, no more and no less, and the rules of LANGUAGE.md that a reader of the source can see. */
public final class FaceTest {
    private static final String[] METHODS = {
        "feed(int)", "nursery()", "fault()", "told(int)", "child(int,int)", "dummy(int,int)", "hour(int)", "give(int,int)",
        "drop(int)", "pick(int)", "boil()", "cold(int)", "drift(int)", "undo()", "mostCalm(boolean,int)", "trades(int)",
        "wants(int)", "wanted(int)", "lost(int,int,int)", "spares(int)", "off(int)", "quiet(int)", "trial(int,int,boolean)",
        "whose(int)", "next()", "write(int,int)", "tear()", "judge()", "seed(int)", "keep(int)", "goBack(int)"};
    private static final String[] CONSTANTS = {"NONE", "UNKNOWN", "OUTSIDE", "NOT", "FULL"};
    private static final int[] VALUES = {-1, -1000000001, -1000000002, -1000000003, -1000000004};
    private static final int LINES_MOST = 60;
    private static final int FIELDS_MOST = 20;
    private static final String[] FORBIDDEN = {
        "throw", "throws", "try", "catch", "finally", "synchronized", "assert", "import", "package", "equals", "hashCode", "toString",
        "->", "::", "\\w+Exact"};

    private static int wrong = 0;

    private static void check(boolean holds, String what) {
        if (!holds) {
            wrong++;
            System.out.println(what);
        }
    }

    public static void main(String[] args) throws Exception {
        face();
        constants();
        names();
        fields(DummyHunt.class);
        for (Class<?> c : DummyHunt.class.getDeclaredClasses()) {
            fields(c);
        }
        source();
        System.out.println(wrong == 0 ? "the face is as due" : wrong + " things are not as due");
        if (wrong != 0) {
            System.exit(1);
        }
    }

    private static String shapeOf(Method m) {
        StringBuilder s = new StringBuilder(m.getName()).append('(');
        for (Class<?> p : m.getParameterTypes()) {
            s.append(s.charAt(s.length() - 1) == '(' ? "" : ",").append(p.getName());
        }
        return s.append(')').toString();
    }

    private static void face() {
        int mods = DummyHunt.class.getModifiers();
        check(Modifier.isPublic(mods) && Modifier.isFinal(mods), "the class is public and final");
        Set<String> found = new TreeSet<>();
        for (Method m : DummyHunt.class.getDeclaredMethods()) {
            if (!Modifier.isPrivate(m.getModifiers())) {
                found.add(shapeOf(m));
                check(m.getReturnType() == int.class && !Modifier.isStatic(m.getModifiers()), m + " answers an int");
            }
        }
        check(found.equals(new TreeSet<>(Set.of(METHODS))), "the methods are " + found);
        Set<String> open = new TreeSet<>();
        for (Field f : DummyHunt.class.getDeclaredFields()) {
            if (!Modifier.isPrivate(f.getModifiers())) {
                open.add(f.getName());
            }
        }
        check(open.equals(new TreeSet<>(Set.of(CONSTANTS))), "the constants are " + open);
        Constructor<?>[] made = DummyHunt.class.getDeclaredConstructors();
        check(made.length == 1 && made[0].getParameterCount() == 0 && Modifier.isPublic(made[0].getModifiers()), "one constructor");
    }

    private static void constants() throws Exception {
        for (int i = 0; i < CONSTANTS.length; i++) {
            Field f = DummyHunt.class.getField(CONSTANTS[i]);
            check(f.getType() == int.class && Modifier.isStatic(f.getModifiers()) && f.getInt(null) == VALUES[i], f + " is " + VALUES[i]);
        }
    }

    /** No state outside the objects, and not too much in one. */
    private static void fields(Class<?> c) {
        int own = 0;
        for (Field f : c.getDeclaredFields()) {
            boolean isStatic = Modifier.isStatic(f.getModifiers());
            own += isStatic ? 0 : 1;
            check(!isStatic || (Modifier.isFinal(f.getModifiers()) && f.getType().isPrimitive()), f + " is a constant");
        }
        check(own <= FIELDS_MOST, c + " has " + own + " fields");
    }

    private static void names() {
        Set<String> taken = new TreeSet<>();
        for (String m : METHODS) {
            taken.add(m.substring(0, m.indexOf('(')));
        }
        for (Method m : DummyHunt.class.getDeclaredMethods()) {
            check(!Modifier.isPrivate(m.getModifiers()) || !taken.contains(m.getName()), m + " bears a public name");
        }
        Class<?>[] inside = DummyHunt.class.getDeclaredClasses();
        check(inside.length < 12, "at most twelve classes");
        for (Class<?> c : inside) {
            check(Modifier.isStatic(c.getModifiers()) && !Modifier.isPublic(c.getModifiers()), c + " is static and not public");
            for (Method m : c.getDeclaredMethods()) {
                check(!taken.contains(m.getName()), m + " bears a public name");
                check(m.getParameterCount() <= 7, m + " takes at most seven");
            }
        }
    }

    private static void source() throws Exception {
        String text = Files.readString(Path.of("src/main/java/DummyHunt.java"), StandardCharsets.ISO_8859_1);
        for (int i = 0; i < text.length(); i++) {
            check(text.charAt(i) < 128, "a sign beyond 127 at " + i);
        }
        String code = text.replaceAll("(?s)/\\*.*?\\*/", "").replaceAll("//[^\n]*", "");
        for (String word : FORBIDDEN) {
            String pattern = Character.isLetter(word.charAt(0)) || word.startsWith("\\w") ? "\\b" + word + "\\b" : Pattern.quote(word);
            Matcher m = Pattern.compile(pattern).matcher(code);
            check(!m.find(), "the source has " + word);
        }
        lengths(text.split("\n"));
    }

    /** A method opens with four or eight blanks and a brace at its line's end, and closes with a brace as far in. */
    private static void lengths(String[] lines) {
        Pattern opening = Pattern.compile("( {4}| {8})(public|private) (?!static final class|final class).*\\) \\{");
        int methods = 0;
        for (int i = 0; i < lines.length; i++) {
            Matcher m = opening.matcher(lines[i]);
            if (!m.matches()) {
                continue;
            }
            methods++;
            int end = i;
            while (end < lines.length && !lines[end].equals(m.group(1) + "}")) {
                end++;
            }
            check(end - i < LINES_MOST, "too long: " + lines[i].trim());
        }
        check(methods > METHODS.length, "only " + methods + " methods are seen");
    }
}
