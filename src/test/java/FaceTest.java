import java.lang.reflect.Constructor;
import java.lang.reflect.Field;
import java.lang.reflect.Method;
import java.lang.reflect.Modifier;
import java.nio.charset.StandardCharsets;
import java.nio.file.Files;
import java.nio.file.Path;
import java.util.Arrays;
import java.util.Set;
import java.util.TreeSet;
import java.util.regex.Matcher;
import java.util.regex.Pattern;

/** The public face of the document, and those rules of LANGUAGE.md that a look at the class or its text can tell. */
public final class FaceTest extends Checks {
    private static final String[] FACE = {
        "int feed(int,int,int,int,int)", "boolean end(int)", "int fault()", "int map()", "boolean man(int,int,int,int)",
        "int stamp(int,int,boolean,int,int)", "int paper(int,int,int)", "int look(int,int,int,int)",
        "boolean doubt(int,int,boolean)", "int undo(int)", "int link(int,int)", "int town(int,int)",
        "int trace(int,int,int)", "int ways(int)", "int may(int,int)", "int surely(int,int)", "int extreme(int,int)",
        "int tale(int,int)", "int toDoubt(int)", "int away(int)", "int met(int,boolean)", "int leg(int,int)",
        "int forget()", "int barred(int)", "int count(int)"};
    private static void due(String what, boolean is) {
        due(what, is, true);
    }

    private static String headOf(Method m) {
        StringBuilder out = new StringBuilder(m.getReturnType().getSimpleName()).append(' ').append(m.getName()).append('(');
        for (int i = 0; i < m.getParameterCount(); i++) {
            out.append(i == 0 ? "" : ",").append(m.getParameterTypes()[i].getSimpleName());
        }
        return out.append(')').toString();
    }

    private static void lookAtFace() {
        Class<?> c = StampTales.class;
        due("public and final", Modifier.isPublic(c.getModifiers()) && Modifier.isFinal(c.getModifiers()));
        Set<String> names = new TreeSet<>();
        Set<String> heads = new TreeSet<>();
        for (Method m : c.getDeclaredMethods()) {
            if (!Modifier.isPrivate(m.getModifiers())) {
                due("public " + m, m.getModifiers() == Modifier.PUBLIC);
                heads.add(headOf(m));
                names.add(m.getName());
            }
        }
        due("the methods of the document: " + heads, heads.equals(new TreeSet<>(Arrays.asList(FACE))));
        for (Method m : c.getDeclaredMethods()) {
            due("a private method with a public name: " + m, !Modifier.isPrivate(m.getModifiers()) || !names.contains(m.getName()));
        }
        for (Field f : c.getDeclaredFields()) {
            due("private " + f, f.getName().equals("NONE") || Modifier.isPrivate(f.getModifiers()));
            due("final, if static: " + f, !Modifier.isStatic(f.getModifiers()) || Modifier.isFinal(f.getModifiers()));
        }
        Constructor<?>[] made = c.getDeclaredConstructors();
        due("one public constructor", made.length == 1 && made[0].getModifiers() == Modifier.PUBLIC);
        for (Class<?> inside : c.getDeclaredClasses()) {
            due("static " + inside, Modifier.isStatic(inside.getModifiers()) && !Modifier.isPublic(inside.getModifiers()));
            due("at most twenty fields: " + inside, fieldsOf(inside) <= 20);
            for (Method m : inside.getDeclaredMethods()) {
                due("at most seven parameters: " + m, m.getParameterCount() <= 7);
                due("a name that is public outside: " + m, !names.contains(m.getName()));
            }
        }
    }

    private static int fieldsOf(Class<?> c) {
        int many = 0;
        for (Field f : c.getDeclaredFields()) {
            many += Modifier.isStatic(f.getModifiers()) ? 0 : 1;
        }
        return many;
    }

    private static void lookAtText() throws java.io.IOException {
        String text = new String(Files.readAllBytes(Path.of("src/main/java/StampTales.java")), StandardCharsets.UTF_8);
        due("plain signs alone", text.chars().allMatch(c -> c == '\n' || c >= 32 && c < 127));
        String code = text.replaceAll("(?s)/\\*.*?\\*/", "").replaceAll("//[^\n]*", "").replaceAll("\"[^\"\n]*\"", "\"\"");
        Matcher m = Pattern.compile("\\b(throw|throws|try|catch|finally|synchronized|assert|import|package|Exact|hashCode"
            + "|toString|Object|Random|Thread|System\\.(?!arraycopy)\\w+)\\b|->|::|@|Exact\\b|static \\{").matcher(code);
        while (m.find()) {
            due("no " + m.group(), false);
        }
    }

    public static void main(String[] args) throws java.io.IOException {
        lookAtFace();
        lookAtText();
        report("FaceTest", "");
    }
}
