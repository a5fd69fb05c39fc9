import java.lang.reflect.Constructor;
import java.lang.reflect.Field;
import java.lang.reflect.Member;
import java.lang.reflect.Method;
import java.lang.reflect.Modifier;
import java.nio.file.Files;
import java.nio.file.Path;
import java.util.TreeSet;

/** The public face, and those rules of LANGUAGE.md that can be seen from outside or by words. */
public final class FaceTest {
    private static final String[] FACE = {"BAD int", "GlulxModes()", "NONE int", "clear() int", "go(int) int",
        "lay(int,int,long) int", "local(int) int", "octet(int) int", "push(int) int", "ram(int) int", "read(int) int",
        "row(int) int", "run(int) int", "stack(int) int", "step() int", "told(int) int"};
    private static final String[] FORBIDDEN = {"throw", "try", "catch", "synchronized", "assert", "import", "package",
        "lambda", "record", "Random", "System.out", "currentTimeMillis", "nanoTime", "Thread", "->", "::"};

    public static void main(String[] args) throws Exception {
        Bench b = new Bench();
        b.due("BAD", GlulxModes.BAD, -1);
        b.due("NONE", GlulxModes.NONE, -2);
        b.due("final", Modifier.isFinal(GlulxModes.class.getModifiers()) ? 1 : 0, 1);
        TreeSet<String> seen = new TreeSet<>();
        for (Field f : GlulxModes.class.getDeclaredFields()) {
            note(seen, f, f.getName() + " " + f.getType().getName());
        }
        for (Constructor<?> c : GlulxModes.class.getDeclaredConstructors()) {
            note(seen, c, "GlulxModes" + types(c.getParameterTypes()));
        }
        for (Method m : GlulxModes.class.getDeclaredMethods()) {
            note(seen, m, m.getName() + types(m.getParameterTypes()) + " " + m.getReturnType().getName());
        }
        b.same("the face", String.join(" ", seen), String.join(" ", new TreeSet<>(java.util.Arrays.asList(FACE))));
        staticFields(b, GlulxModes.class);
        for (Class<?> inside : GlulxModes.class.getDeclaredClasses()) {
            b.due(inside + " static", Modifier.isStatic(inside.getModifiers()) ? 1 : 0, 1);
            staticFields(b, inside);
            methods(b, inside);
        }
        words(b);
        b.end();
    }

    private static void note(TreeSet<String> seen, Member member, String text) {
        if (!Modifier.isPrivate(member.getModifiers()) && !member.isSynthetic()) {
            seen.add(text);
        }
    }

    private static String types(Class<?>[] types) {
        StringBuilder text = new StringBuilder("(");
        for (Class<?> type : types) {
            text.append(text.length() > 1 ? "," : "").append(type.getName());
        }
        return text.append(")").toString();
    }

    private static void staticFields(Bench b, Class<?> type) {
        for (Field f : type.getDeclaredFields()) {
            if (Modifier.isStatic(f.getModifiers())) {
                b.due(f + " final", Modifier.isFinal(f.getModifiers()) ? 1 : 0, 1);
            }
        }
    }

    /** Rule 1: no private method bears the name of a public one; rule 11: at most seven parameters. */
    private static void methods(Bench b, Class<?> inside) {
        for (Method m : inside.getDeclaredMethods()) {
            String face = " " + String.join(" ", FACE);
            b.due(m + " bears a name of the face", face.contains(" " + m.getName() + "(") ? 1 : 0, 0);
            b.due(m + " parameters", m.getParameterCount() <= 7 ? 1 : 0, 1);
        }
    }

    private static void words(Bench b) throws Exception {
        String source = Files.readString(Path.of("src/main/java/GlulxModes.java"));
        String code = source.replaceAll("(?s)/\\*.*?\\*/", " ").replaceAll("//[^\n]*", " ");
        for (String word : FORBIDDEN) {
            boolean plain = Character.isLetter(word.charAt(0));
            String form = plain ? "\\b" + java.util.regex.Pattern.quote(word) + "\\b" : java.util.regex.Pattern.quote(word);
            b.due("the word " + word, java.util.regex.Pattern.compile(form).matcher(code).find() ? 1 : 0, 0);
        }
    }
}
