import java.io.IOException;
import java.lang.reflect.Constructor;
import java.lang.reflect.Field;
import java.lang.reflect.Method;
import java.lang.reflect.Modifier;
import java.nio.file.Files;
import java.nio.file.Path;
import java.util.Arrays;
import java.util.Set;
import java.util.TreeSet;
import java.util.regex.Matcher;
import java.util.regex.Pattern;

/** The public face, and those rules of LANGUAGE.md that can be read off the class and its text. */
public final class LanguageTest {
    private static final String SOURCE = "src/main/java/IndexDesk.java";
    private static final String[] FACE = {
        "boolean table(int, int, int)", "int put(int, int, int, int, int)", "boolean strike(int, int)",
        "int recount(int)", "int counts(int, int, int)", "boolean changes(int, int)",
        "int question(int, int, int, int)", "boolean test(int, int, int, int)",
        "int order(int, int, int, int, int, int)", "int part(int, int, int, int, int, int)",
        "int sums(int, int, int)", "boolean build(int, boolean)", "long look(int, int)", "int cost(int, int)",
        "int plan(int)", "int run(int, int)", "long total(int)", "int room(int)", "int built()",
        "int choose(int)", "int greedy(int)", "int count(int)",
    };
    private static final String[] BANNED = {
        "throw", "throws", "try", "catch", "finally", "synchronized", "assert", "volatile", "native", "transient",
        "System", "Thread", "Random", "Object", "protected", "package", "HashMap", "Iterator", "->", "::", "@",
        "equals", "hashCode", "toString",
    };

    private LanguageTest() {
    }

    public static void main(String[] args) throws IOException {
        faceIsTheDocuments();
        privateNamesAreOthers();
        classesInsideAreFew();
        textHasNothingBanned();
        Check.finish();
    }

    private static String signature(Method m) {
        StringBuilder text = new StringBuilder(m.getReturnType().getName()).append(' ').append(m.getName()).append('(');
        for (Class<?> p : m.getParameterTypes()) {
            text.append(text.charAt(text.length() - 1) == '(' ? "" : ", ").append(p.getName());
        }
        return text.append(')').toString();
    }

    private static void faceIsTheDocuments() {
        Check.due("public and final", IndexDesk.class.getModifiers(), Modifier.PUBLIC | Modifier.FINAL);
        Set<String> open = new TreeSet<>();
        for (Method m : IndexDesk.class.getDeclaredMethods()) {
            if (!Modifier.isPrivate(m.getModifiers()) && !m.isSynthetic()) {
                open.add((Modifier.isPublic(m.getModifiers()) ? "" : "not public: ") + signature(m));
            }
        }
        Check.due("methods " + open, open.equals(new TreeSet<>(Arrays.asList(FACE))), true);
        for (Field f : IndexDesk.class.getDeclaredFields()) {
            boolean isNone = f.getName().equals("NONE");
            Check.due("private field " + f.getName(), Modifier.isPrivate(f.getModifiers()), !isNone);
            Check.due("static means final " + f.getName(),
                !Modifier.isStatic(f.getModifiers()) || Modifier.isFinal(f.getModifiers()), true);
        }
        Constructor<?>[] constructors = IndexDesk.class.getDeclaredConstructors();
        Check.due("constructors", constructors.length, 1);
        Check.due("public constructor", Modifier.isPublic(constructors[0].getModifiers()), true);
        Check.due("its parameters", constructors[0].getParameterCount(), 0);
    }

    private static void privateNamesAreOthers() {
        Set<String> open = new TreeSet<>();
        for (String signature : FACE) {
            open.add(signature.substring(signature.indexOf(' ') + 1, signature.indexOf('(')));
        }
        for (Class<?> c : IndexDesk.class.getDeclaredClasses()) {
            for (Method m : c.getDeclaredMethods()) {
                Check.due(c.getName() + "." + m.getName() + " bears a public name", open.contains(m.getName()), false);
                Check.due(c.getName() + "." + m.getName() + " has seven parameters", m.getParameterCount() <= 7, true);
            }
        }
        for (Method m : IndexDesk.class.getDeclaredMethods()) {
            boolean isOther = !Modifier.isPrivate(m.getModifiers()) || !open.contains(m.getName());
            Check.due("private " + m.getName(), isOther, true);
        }
    }

    private static void classesInsideAreFew() {
        Class<?>[] inside = IndexDesk.class.getDeclaredClasses();
        Check.due("classes: " + inside.length, inside.length < 12, true);
        for (Class<?> c : inside) {
            Check.due(c.getName() + " is static", Modifier.isStatic(c.getModifiers()), true);
            Check.due(c.getName() + " is hidden",
                !Modifier.isPublic(c.getModifiers()) && !Modifier.isProtected(c.getModifiers()), true);
            Check.due(c.getName() + "'s fields", c.getDeclaredFields().length <= 20, true);
            Check.due(c.getName() + "'s inner classes", c.getDeclaredClasses().length, 0);
        }
    }

    private static void textHasNothingBanned() throws IOException {
        String code = Files.readString(Path.of(SOURCE));
        for (int i = 0; i < code.length(); i++) {
            if (code.charAt(i) > 255) {
                Check.due("character at " + i, code.charAt(i), 0);
            }
        }
        code = code.replaceAll("(?s)/\\*.*?\\*/", " ").replaceAll("//[^\n]*", " ");
        for (String banned : BANNED) {
            boolean isWord = Character.isLetter(banned.charAt(0));
            Matcher m = Pattern.compile(isWord ? "\\b" + banned + "\\b" : Pattern.quote(banned)).matcher(code);
            Check.due("the text has " + banned, m.find(), false);
        }
        Matcher imports = Pattern.compile("\\bimport ([^;]*);").matcher(code);
        while (imports.find()) {
            Check.due("import " + imports.group(1), imports.group(1).equals("java.util.ArrayList"), true);
        }
        Check.due("a name ending in Exact", Pattern.compile("Exact\\b").matcher(code).find(), false);
    }
}
