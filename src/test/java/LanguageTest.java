import java.lang.reflect.Constructor;
import java.lang.reflect.Executable;
import java.lang.reflect.Field;
import java.lang.reflect.Method;
import java.lang.reflect.Modifier;
import java.nio.file.Files;
import java.nio.file.Path;
import java.util.ArrayList;
import java.util.List;
import java.util.Set;
import java.util.TreeSet;
import java.util.regex.Matcher;
import java.util.regex.Pattern;

/** The rules of LANGUAGE.md that can be looked up, and the document's face. */
public final class LanguageTest {
    private static final Checks CHECKS = new Checks();
    private static final Set<String> FACE = new TreeSet<>(List.of(
        "int NONE", "int NO", "TextLessons()",
        "int feed(int, int, int, int, int)", "int cut(int)", "int compile()", "int run()", "int ended(int)",
        "int done(int)", "int step(int, int)", "int spelled(int, int)", "int shrink()", "int length(int)",
        "int unit(int, int)", "int hash(int)", "int same(int, int)", "int pooled(int)", "int pool()",
        "long whole(int)", "int builder(int, int)", "int builderUnit(int, int)", "int parts()",
        "int partUnit(int, int)", "int partOf(int)", "int marks()", "long mark(int)"));

    public static void main(String[] args) throws Exception {
        String source = Files.readString(Path.of("src/main/java/TextLessons.java"));
        checkFace();
        checkWords(bare(source));
        checkClasses();
        checkMethodLengths(source);
        CHECKS.end("LanguageTest");
    }

    private static void checkFace() {
        Class<?> face = TextLessons.class;
        Set<String> seen = new TreeSet<>();
        List<String> hidden = new ArrayList<>();
        for (Field f : face.getDeclaredFields()) {
            note(f.getModifiers(), f.getType().getSimpleName() + " " + f.getName(), seen, hidden);
        }
        for (Constructor<?> c : face.getDeclaredConstructors()) {
            note(c.getModifiers(), face.getSimpleName() + parameters(c), seen, hidden);
        }
        for (Method m : face.getDeclaredMethods()) {
            note(m.getModifiers(), m.getReturnType().getSimpleName() + " " + m.getName() + parameters(m), seen, hidden);
        }
        CHECKS.due("the face", seen.toString(), FACE.toString());
        CHECKS.due("members neither public nor private", hidden.toString(), "[]");
        CHECKS.due("the class's modifiers", Modifier.toString(face.getModifiers()), "public final");
    }

    private static void note(int modifiers, String member, Set<String> seen, List<String> hidden) {
        if (Modifier.isPublic(modifiers)) {
            seen.add(member);
        } else if (!Modifier.isPrivate(modifiers)) {
            hidden.add(member);
        }
    }

    private static String parameters(Executable e) {
        List<String> types = new ArrayList<>();
        for (Class<?> type : e.getParameterTypes()) {
            types.add(type.getSimpleName());
        }
        return "(" + String.join(", ", types) + ")";
    }

    private static void checkWords(String bare) {
        Pattern forbidden = Pattern.compile(
            "\\b(throw|throws|try|catch|synchronized|assert|double|float|null|Exact\\w*|System\\.(?!arraycopy)\\w+)\\b"
            + "|->|::|@\\w+");
        Matcher m = forbidden.matcher(bare);
        List<String> found = new ArrayList<>();
        while (m.find()) {
            found.add(m.group());
        }
        CHECKS.due("words that are ruled out", found.toString(), "[]");
        Matcher imports = Pattern.compile("import [^;]+;").matcher(bare);
        List<String> imported = new ArrayList<>();
        while (imports.find()) {
            imported.add(imports.group());
        }
        CHECKS.due("imports", imported.toString(), "[import java.util.Arrays;]");
    }

    /** The source without comments, and with all that stands in quotes left out. */
    private static String bare(String source) {
        return source.replaceAll("(?s)/\\*.*?\\*/", "").replaceAll("//[^\n]*", "")
            .replaceAll("'(\\\\.|[^'\\\\])'", "' '").replaceAll("\"(\\\\.|[^\"\\\\])*\"", "\"\"");
    }

    private static void checkClasses() {
        List<String> wrong = new ArrayList<>();
        Set<String> publicNames = new TreeSet<>();
        for (Method m : TextLessons.class.getMethods()) {
            publicNames.add(m.getName());
        }
        List<Class<?>> classes = new ArrayList<>(List.of(TextLessons.class));
        classes.addAll(List.of(TextLessons.class.getDeclaredClasses()));
        for (Class<?> c : classes) {
            if (c != TextLessons.class && !Modifier.isStatic(c.getModifiers())) {
                wrong.add(c.getName() + " is not static");
            }
            int fields = 0;
            for (Field f : c.getDeclaredFields()) {
                boolean isStatic = Modifier.isStatic(f.getModifiers());
                fields += isStatic ? 0 : 1;
                if (isStatic && !Modifier.isFinal(f.getModifiers())) {
                    wrong.add(f + " is not final");
                }
            }
            if (fields > 20) {
                wrong.add(c.getName() + " has " + fields + " fields");
            }
            for (Method m : c.getDeclaredMethods()) {
                if (m.getParameterCount() > 7) {
                    wrong.add(m + " has too many parameters");
                }
                if (Modifier.isPrivate(m.getModifiers()) && publicNames.contains(m.getName())) {
                    wrong.add(m + " bears a public name");
                }
            }
        }
        CHECKS.due("classes", wrong.toString(), "[]");
        CHECKS.due("at most twelve classes", classes.size() <= 12 ? 1 : 0, 1);
    }

    private static void checkMethodLengths(String source) {
        List<String> tooLong = new ArrayList<>();
        Matcher m = Pattern.compile("(?m)^( {4}| {8})(?! )[^\\n=;]*\\) \\{\\n((?!\\1\\}).*\\n)*").matcher(source);
        int methods = 0;
        while (m.find()) {
            methods++;
            if (m.group().lines().count() > 60) {
                tooLong.add(m.group().lines().findFirst().orElse(""));
            }
        }
        CHECKS.due("methods of more than sixty lines", tooLong.toString(), "[]");
        CHECKS.due("methods were found", methods > 100 ? 1 : 0, 1);
    }
}
