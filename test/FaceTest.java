import java.io.IOException;
import java.lang.reflect.Constructor;
import java.lang.reflect.Field;
import java.lang.reflect.Method;
import java.lang.reflect.Modifier;
import java.nio.file.Files;
import java.nio.file.Path;
import java.util.Set;
import java.util.TreeSet;
import java.util.regex.Matcher;
import java.util.regex.Pattern;

/** The public face as the document tells it, and what of LANGUAGE.md can be seen in the text of the program. */
public final class FaceTest {
    private static void due(String what, Object want, Checks.Call call) {
        Checks.due(what, want, call);
    }

    /** Each member of the face in the document, as its name and types. */
    private static Set<String> faceOfDocument() throws IOException {
        String doc = Files.readString(Path.of("../shared/DOC.md"));
        String face = doc.substring(doc.indexOf("public final class KiteQuarrel {"), doc.indexOf("## Terms"));
        Set<String> members = new TreeSet<>();
        Matcher m = Pattern.compile("public (\\w+) (\\w+)\\(([^)]*)\\)( throws ([^;]*))?;").matcher(face);
        while (m.find()) {
            String types = m.group(3).replaceAll("(\\w+) \\w+", "$1").replace(" ", "");
            String thrown = m.group(5) == null ? "" : m.group(5).replace(" ", "");
            members.add(m.group(1) + " " + m.group(2) + "(" + types + ")" + thrown);
        }
        Matcher constants = Pattern.compile("public static final int ([^;]*);").matcher(face);
        while (constants.find()) {
            for (String one : constants.group(1).split(", ")) members.add(one);
        }
        return members;
    }

    private static Set<String> faceOfClass() throws IllegalAccessException {
        Set<String> members = new TreeSet<>();
        for (Method m : KiteQuarrel.class.getDeclaredMethods()) {
            if (Modifier.isPrivate(m.getModifiers())) continue;
            StringBuilder s = new StringBuilder(m.getReturnType() + " " + m.getName() + "(");
            for (int i = 0; i < m.getParameterCount(); i++) s.append(i > 0 ? "," : "").append(m.getParameterTypes()[i]);
            s.append(")");
            for (int i = 0; i < m.getExceptionTypes().length; i++) s.append(i > 0 ? "," : "").append(m.getExceptionTypes()[i].getSimpleName());
            members.add((Modifier.isPublic(m.getModifiers()) ? "" : "not public: ") + s);
        }
        for (Field f : KiteQuarrel.class.getDeclaredFields()) {
            if (!Modifier.isPrivate(f.getModifiers())) members.add(f.getName() + " = " + (Modifier.isStatic(f.getModifiers()) ? f.get(null) : "?"));
        }
        return members;
    }

    private static void face() throws IOException, IllegalAccessException {
        Set<String> document = faceOfDocument(), program = faceOfClass();
        due("members", document, () -> program);
        due("there are 57 methods and 11 constants", 57 + 11, document::size);
        Constructor<?>[] constructors = KiteQuarrel.class.getDeclaredConstructors();
        due("one constructor, public, of nothing", "1 true 0", () -> constructors.length + " " + Modifier.isPublic(constructors[0].getModifiers()) + " "
            + constructors[0].getParameterCount());
        due("public and final", Modifier.PUBLIC | Modifier.FINAL, KiteQuarrel.class::getModifiers);
        Set<String> names = new TreeSet<>();
        for (Method m : KiteQuarrel.class.getDeclaredMethods()) if (Modifier.isPublic(m.getModifiers())) names.add(m.getName());
        for (Method m : KiteQuarrel.class.getDeclaredMethods()) {
            if (Modifier.isPrivate(m.getModifiers())) due("no private method is called " + m.getName(), false, () -> names.contains(m.getName()));
        }
        for (Class<?> inside : KiteQuarrel.class.getDeclaredClasses()) {
            due(inside.getSimpleName() + " is static", true, () -> Modifier.isStatic(inside.getModifiers()) && !Modifier.isPublic(inside.getModifiers()));
            due(inside.getSimpleName() + " has few fields", true, () -> fieldsOf(inside) <= 20);
            for (Method m : inside.getDeclaredMethods()) due("no method inside is called " + m.getName(), false, () -> names.contains(m.getName()));
        }
        due("few fields", true, () -> fieldsOf(KiteQuarrel.class) <= 20);
        due("few classes", true, () -> KiteQuarrel.class.getDeclaredClasses().length < 12);
    }

    private static long fieldsOf(Class<?> c) {
        long number = 0;
        for (Field f : c.getDeclaredFields()) if (!Modifier.isStatic(f.getModifiers())) number++;
        return number;
    }

    private static void language() throws IOException {
        String program = Files.readString(Path.of("src/main/java/KiteQuarrel.java")).replaceAll("/\\*[^*]*\\*+([^/*][^*]*\\*+)*/", "").replaceAll("//[^\n]*", "");
        String code = program.replaceAll("\"[^\"\n]*\"", "\"\"");
        String[] forbidden = {"\\bimport\\b", "\\bpackage\\b", "->", "::", "\\btry\\b", "\\bcatch\\b", "\\bfinally\\b", "\\bsynchronized\\b", "\\bassert\\b", "\\bSystem\\b",
            "\\bhashCode\\b", "\\btoString\\b", "\\w+Exact\\b", "\\bThread\\b", "\\bObject\\b", "\\bvar\\b", "\\bMath\\.(?!max|min|abs|floorDiv)\\w+"};
        for (String f : forbidden) due("no " + f, false, () -> Pattern.compile(f).matcher(code).find());
        due("constants of texts hold plain signs", true, () -> program.chars().allMatch(c -> c == '\n' || c >= 32 && c < 127));
        Matcher thrown = Pattern.compile("throw new (\\w+)").matcher(code);
        while (thrown.find()) {
            String name = thrown.group(1);
            due("thrown: " + name, true, () -> Set.of("IllegalStateException", "IllegalArgumentException", "IndexOutOfBoundsException").contains(name));
        }
    }

    public static void main(String[] args) throws IOException, IllegalAccessException {
        face();
        language();
        Checks.end("FaceTest");
    }
}
