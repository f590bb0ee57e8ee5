import java.lang.reflect.Constructor;
import java.lang.reflect.Field;
import java.lang.reflect.Method;
import java.lang.reflect.Modifier;
import java.nio.file.Files;
import java.nio.file.Path;
import java.util.List;
import java.util.Set;
import java.util.TreeSet;
import java.util.regex.Matcher;
import java.util.regex.Pattern;

/** Those rules of LANGUAGE.md that can be seen from the class's face and from its text. */
public final class RulesTest {
    private static final List<String> NEVER = List.of("throw", "throws", "try", "catch", "synchronized", "assert",
        "import", "package", "protected", "var", "Object", "System\\.(?!arraycopy)", "\\w+Exact", "->", "::",
        "toString", "hashCode", "equals", "double", "float", "new \\w+\\([^)]*\\) *\\{");

    public static void main(String[] args) throws Exception {
        String root = System.getProperty("yearwords.root", ".");
        face(faceOf(Files.readString(Path.of(root, "../shared/DOC.md"))));
        for (Class<?> inside : YearWords.class.getDeclaredClasses()) {
            inside(inside);
        }
        Due.holds("at most twelve classes", YearWords.class.getDeclaredClasses().length < 12);
        String text = Files.readString(Path.of(root, "src/main/java/YearWords.java"));
        words(text.replaceAll("(?s)/\\*.*?\\*/", "").replaceAll("//[^\n]*", ""));
        methods(text.split("\n"));
        Due.end("RulesTest");
    }

    /** As the document writes it, but for the parameters' names. */
    private static Set<String> faceOf(String document) {
        Set<String> face = new TreeSet<>();
        Matcher m = Pattern.compile("(?m)^    public ((?:int|long) \\w+\\(.*\\));$").matcher(document);
        while (m.find()) {
            face.add(m.group(1).replaceAll("(int|long) \\w+(, |\\))", "$1$2").replace(", ", ","));
        }
        Due.is("calls in the document's face", face.size(), 46);
        return face;
    }

    private static void face(Set<String> want) {
        Set<String> got = new TreeSet<>();
        Set<String> publicNames = new TreeSet<>();
        for (Method m : YearWords.class.getDeclaredMethods()) {
            if (!Modifier.isPrivate(m.getModifiers())) {
                got.add(told(m));
                publicNames.add(m.getName());
                Due.holds(told(m) + " is public and no static one", (m.getModifiers() & 15) == Modifier.PUBLIC);
            }
        }
        Due.holds("the face is the document's, not " + got, got.equals(want));
        for (Method m : YearWords.class.getDeclaredMethods()) {
            Due.holds("no private method bears the name of a public one: " + told(m),
                !Modifier.isPrivate(m.getModifiers()) || !publicNames.contains(m.getName()));
        }
        for (Class<?> inside : YearWords.class.getDeclaredClasses()) {
            for (Method m : inside.getDeclaredMethods()) {
                Due.holds("no method inside bears the name of a public one: " + told(m), !publicNames.contains(m.getName()));
            }
        }
        Constructor<?>[] made = YearWords.class.getDeclaredConstructors();
        Due.holds("one public constructor without parameters", made.length == 1 && made[0].getParameterCount() == 0
            && Modifier.isPublic(made[0].getModifiers()));
        Due.holds("public and final", (YearWords.class.getModifiers() & 17) == 17);
        fields(YearWords.class);
        for (Field f : YearWords.class.getDeclaredFields()) {
            Due.holds("private: " + f.getName(), Modifier.isPrivate(f.getModifiers()));
        }
    }

    private static String told(Method m) {
        StringBuilder b = new StringBuilder(m.getReturnType().getSimpleName()).append(' ').append(m.getName()).append('(');
        for (Class<?> c : m.getParameterTypes()) {
            b.append(b.charAt(b.length() - 1) == '(' ? "" : ",").append(c.getSimpleName());
        }
        return b.append(')').toString();
    }

    private static void inside(Class<?> c) {
        Due.holds("static: " + c, Modifier.isStatic(c.getModifiers()));
        Due.holds("not public: " + c, !Modifier.isPublic(c.getModifiers()));
        fields(c);
    }

    private static void fields(Class<?> c) {
        int own = 0;
        for (Field f : c.getDeclaredFields()) {
            if (Modifier.isStatic(f.getModifiers())) {
                Due.holds("final: " + f, Modifier.isFinal(f.getModifiers()));
            } else {
                own++;
            }
        }
        Due.holds("some twenty fields at most: " + c, own <= 20);
        for (Method m : c.getDeclaredMethods()) {
            Due.holds("at most seven parameters: " + m, m.getParameterCount() <= 7);
        }
    }

    private static void words(String code) {
        for (String never : NEVER) {
            String edge = Character.isLetter(never.charAt(0)) ? "\\b" : "";
            String end = Character.isLetter(never.charAt(never.length() - 1)) ? "\\b" : "";
            Matcher m = Pattern.compile(edge + never + end).matcher(code);
            Due.holds("never '" + never + "' in the class", !m.find());
        }
        Due.holds("signs 1 to 127 alone", code.chars().allMatch(ch -> ch >= 1 && ch <= 127));
    }

    /** By the indent, as the file is laid out: a method ends with the brace below its first letter. */
    private static void methods(String[] lines) {
        Pattern head = Pattern.compile("^( {4}| {8})[a-zA-Z].*\\) \\{$");
        for (int i = 0; i < lines.length; i++) {
            Matcher m = head.matcher(lines[i]);
            if (m.find()) {
                int end = i;
                while (end < lines.length && !lines[end].equals(m.group(1) + "}")) {
                    end++;
                }
                Due.holds("short: " + lines[i].trim(), end - i < 60);
            }
        }
    }
}
