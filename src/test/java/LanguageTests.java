import java.lang.reflect.Constructor;
import java.lang.reflect.Field;
import java.lang.reflect.Method;
import java.lang.reflect.Modifier;
import java.nio.file.Files;
import java.nio.file.Path;
import java.util.Set;
import java.util.TreeSet;
import java.util.regex.Matcher;
import java.util.regex.Pattern;

/** The face, and those rules of LANGUAGE.md that can be seen from outside. Run from the project's folder. */
public final class LanguageTests {
    private static final Due due = new Due();

    private static final Set<String> FACE = Set.of(
        "int sort(int,int,int,int,int)", "int takes(int,int,boolean)", "int at(int,int,int)", "int distance(int)",
        "int plant(int,int,int,int)", "int pull(int,int)", "int as(int,int)", "int of(int,int)", "int cut(int,int)",
        "int sheet(int,int,int)", "int put(int,int,int)", "int copy(int,int,int,int,int)", "int name(int)",
        "int warmth(int)", "int sum(int)", "int blooms(int)", "int frost(int,int,int)", "int partners(int,int,int)",
        "int go(int)", "int fruits(int,int)", "int thin(int,int)", "int hours(int)", "int store(int)",
        "int take(int,int)", "long all(int)", "int lone(int)", "int best()", "int given(int)", "int keep()",
        "int back()", "int told(int)");

    public static void main(String[] args) throws Exception {
        face();
        String source = Files.readString(Path.of("src/main/java/OrchardBook.java"));
        for (int k = 0; k < source.length(); k++) {
            due.holds("3 a character above 255", source.charAt(k) <= 255);
        }
        words(source.replaceAll("(?s)/\\*.*?\\*/", " ").replaceAll("//[^\n]*", " "));
        methodsStayShort(source);
        due.end();
    }

    private static void face() {
        Class<?> c = OrchardBook.class;
        due.holds("1 public and final", Modifier.isPublic(c.getModifiers()) && Modifier.isFinal(c.getModifiers()));
        due.holds("1 one constructor", c.getDeclaredConstructors().length == 1);
        for (Constructor<?> made : c.getDeclaredConstructors()) {
            boolean isPublic = Modifier.isPublic(made.getModifiers());
            due.holds("1 public, without numbers", isPublic && made.getParameterCount() == 0);
        }
        Set<String> seen = new TreeSet<>();
        Set<String> names = new TreeSet<>();
        for (Method m : c.getDeclaredMethods()) {
            if (!Modifier.isPrivate(m.getModifiers())) {
                due.holds("1 public: " + m, m.getModifiers() == Modifier.PUBLIC);
                seen.add(told(m));
                names.add(m.getName());
            }
        }
        due.holds("1 the face is " + seen, seen.equals(new TreeSet<>(FACE)));
        privateNames(c, names);
        members(c);
        for (Class<?> inner : c.getDeclaredClasses()) {
            due.holds("2 static: " + inner, Modifier.isStatic(inner.getModifiers()));
            privateNames(inner, names);
            members(inner);
        }
        due.holds("11 classes", c.getDeclaredClasses().length < 12);
    }

    private static String told(Method m) {
        StringBuilder text = new StringBuilder(m.getReturnType() + " " + m.getName() + "(");
        for (int k = 0; k < m.getParameterCount(); k++) {
            text.append(k == 0 ? "" : ",").append(m.getParameterTypes()[k]);
        }
        return text.append(")").toString();
    }

    private static void privateNames(Class<?> c, Set<String> names) {
        for (Method m : c.getDeclaredMethods()) {
            boolean ofFace = c == OrchardBook.class && Modifier.isPublic(m.getModifiers());
            due.holds("1 bears a public name: " + m, ofFace || !names.contains(m.getName()));
            due.holds("11 parameters: " + m, m.getParameterCount() <= 7);
        }
    }

    private static void members(Class<?> c) {
        int fields = 0;
        for (Field f : c.getDeclaredFields()) {
            if (c == OrchardBook.class) {
                due.holds("1 private: " + f, Modifier.isPrivate(f.getModifiers()));
            }
            if (Modifier.isStatic(f.getModifiers())) {
                due.holds("5 final: " + f, Modifier.isFinal(f.getModifiers()));
            } else {
                fields++;
            }
        }
        due.holds("11 fields of " + c, fields <= 20);
    }

    private static void words(String code) {
        String[] refused = {"throw", "throws", "try", "catch", "finally", "synchronized", "assert", "import", "package",
            "float", "double", "Float", "Double", "Object", "hashCode", "toString", "equals", "Iterator", "Thread",
            "System\\.(?!arraycopy)\\w+", "\\w+Exact", "static\\s*\\{", "->", "::"};
        for (String word : refused) {
            String pattern = Character.isLetter(word.charAt(0)) ? "\\b" + word : word;
            pattern += Character.isLetter(word.charAt(word.length() - 1)) ? "\\b" : "";
            Matcher m = Pattern.compile(pattern).matcher(code);
            due.holds("6 refused: " + word, !m.find());
        }
    }

    private static void methodsStayShort(String source) {
        String indent = "    ";
        int start = -1;
        int methods = 0;
        String[] lines = source.split("\n");
        for (int k = 0; k < lines.length; k++) {
            boolean inner = lines[k].startsWith("    private static final class ");
            boolean innerEnds = lines[k].equals("    }") && indent.length() == 8;
            if (inner || innerEnds) {
                indent = inner ? "        " : "    ";
            } else if (lines[k].matches(indent + "\\S.*\\) \\{")) {
                start = k;
                methods++;
            } else if (lines[k].equals(indent + "}") && start >= 0) {
                due.holds("11 too long a method ends at line " + (k + 1), k - start < 60);
                start = -1;
            }
        }
        due.holds("11 methods were found", methods > 80);
    }
}
