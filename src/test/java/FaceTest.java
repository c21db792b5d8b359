import java.lang.reflect.Constructor;
import java.lang.reflect.Field;
import java.lang.reflect.Method;
import java.lang.reflect.Modifier;
import java.nio.charset.StandardCharsets;
import java.nio.file.Files;
import java.nio.file.Path;
import java.util.Set;
import java.util.TreeSet;
import java.util.regex.Matcher;
import java.util.regex.Pattern;

/** The document's face, no more and no less, and the rules of LANGUAGE.md that a reader of the source can see. */
public final class FaceTest {
    private static final String[] METHODS = {
        "feed(int)", "nursery()", "fault()", "told(int)", "child(int,int)", "dummy(int,int)", "hour(int)", "give(int,int)",
        "drop(int)", "pick(int)", "boil()", "cold(int)", "drift(int)", "undo()", "mostCalm(boolean,int)", "trades(int)",
        "wants(int)", "wanted(int)", "lost(int,int,int)", "spares(int)", "off(int)", "quiet(int)", "trial(int,int,boolean)",
        "whose(int)", "next()", "write(int,int)", "tear()", "judge()", "seed(int)", "keep(int)", "goBack(int)"};
    private static final String[] CONSTANTS = {"NONE", "UNKNOWN", "OUTSIDE", "NOT", "FULL"};
    private static final String[] FORBIDDEN = {
        "throw", "throws", "try", "catch", "finally", "synchronized", "assert", "import", "package", "equals", "hashCode", "toString",
        "->", "::", "\\w+Exact"};

    private static int wrong = 0;

    private static void check(boolean holds, String what) {
        if (!holds) {
            wrong++;
            System.out.println(what);
        }
    }

    public static void main(String[] args) throws Exception {
        face();
        names();
        source();
        System.out.println(wrong == 0 ? "the face is as due" : wrong + " things are not as due");
        if (wrong != 0) {
            System.exit(1);
        }
    }

    private static String shapeOf(Method m) {
        StringBuilder s = new StringBuilder(m.getName()).append('(');
        for (Class<?> p : m.getParameterTypes()) {
            s.append(s.charAt(s.length() - 1) == '(' ? "" : ",").append(p.getName());
        }
        return s.append(')').toString();
    }

    private static void face() {
        int mods = DummyHunt.class.getModifiers();
        check(Modifier.isPublic(mods) && Modifier.isFinal(mods), "the class is public and final");
        Set<String> found = new TreeSet<>();
        for (Method m : DummyHunt.class.getDeclaredMethods()) {
            if (!Modifier.isPrivate(m.getModifiers())) {
                found.add(shapeOf(m));
                check(m.getReturnType() == int.class && !Modifier.isStatic(m.getModifiers()), m + " answers an int");
            }
        }
        check(found.equals(new TreeSet<>(Set.of(METHODS))), "the methods are " + found);
        Set<String> open = new TreeSet<>();
        for (Field f : DummyHunt.class.getDeclaredFields()) {
            if (!Modifier.isPrivate(f.getModifiers())) {
                open.add(f.getName());
            }
        }
        check(open.equals(new TreeSet<>(Set.of(CONSTANTS))), "the constants are " + open);
        Constructor<?>[] made = DummyHunt.class.getDeclaredConstructors();
        check(made.length == 1 && made[0].getParameterCount() == 0 && Modifier.isPublic(made[0].getModifiers()), "one constructor");
    }

    private static void names() {
        Set<String> taken = new TreeSet<>();
        for (String m : METHODS) {
            taken.add(m.substring(0, m.indexOf('(')));
        }
        for (Method m : DummyHunt.class.getDeclaredMethods()) {
            check(!Modifier.isPrivate(m.getModifiers()) || !taken.contains(m.getName()), m + " bears a public name");
        }
        Class<?>[] inside = DummyHunt.class.getDeclaredClasses();
        check(inside.length < 12, "at most twelve classes");
        for (Class<?> c : inside) {
            check(Modifier.isStatic(c.getModifiers()) && !Modifier.isPublic(c.getModifiers()), c + " is static and not public");
            for (Method m : c.getDeclaredMethods()) {
                check(!taken.contains(m.getName()), m + " bears a public name");
                check(m.getParameterCount() <= 7, m + " takes at most seven");
            }
        }
    }

    private static void source() throws Exception {
        String text = Files.readString(Path.of("src/main/java/DummyHunt.java"), StandardCharsets.ISO_8859_1);
        for (int i = 0; i < text.length(); i++) {
            check(text.charAt(i) < 128, "a sign beyond 127 at " + i);
        }
        String code = text.replaceAll("(?s)/\\*.*?\\*/", "").replaceAll("//[^\n]*", "");
        for (String word : FORBIDDEN) {
            String pattern = Character.isLetter(word.charAt(0)) || word.startsWith("\\w") ? "\\b" + word + "\\b" : Pattern.quote(word);
            Matcher m = Pattern.compile(pattern).matcher(code);
            check(!m.find(), "the source has " + word);
        }
    }
}
