import java.io.IOException;
import java.lang.reflect.Constructor;
import java.lang.reflect.Field;
import java.lang.reflect.Method;
import java.lang.reflect.Modifier;
import java.nio.file.Files;
import java.nio.file.Path;
import java.util.Arrays;
import java.util.HashSet;
import java.util.Set;
import java.util.TreeSet;

/** The public face of the document, and what of LANGUAGE.md can be seen without reading closely. */
public final class FaceTest {
    private static final Class<?> FACE = HistoryJudge.class;

    private static final String[] METHODS = {
        "int add(int,int,int,int)",
        "int clear()",
        "int make(long,int,int,int)",
        "int flaws(int)",
        "boolean run(int)",
        "int fails(long,int)",
        "int shrink(long,int)",
        "int command(int,int)",
        "int event(int,int)",
        "int order(int)",
        "int cell(int)",
        "int count(int)",
        "int tally(int)",
    };

    private static final Set<String> IMPORTS = Set.of("java.util.NoSuchElementException", "java.util.ArrayList",
            "java.util.List", "java.util.Arrays", "java.util.Iterator");

    /** Rules 2, 5, 6 and 13: what stands nowhere in the program but in a comment or a text. */
    private static final String[] BANNED = {
        "::", "finally", "synchronized", "assert ", "static {", "Random", "nanoTime", "currentTimeMillis", "Exact(",
        "System.out", "System.err", "System.in", "System.get", "Thread", "java.io", "java.nio", "java.net",
    };

    private FaceTest() {
    }

    public static void main(String[] args) {
        Check.runAllOf(FaceTest.class);
    }

    private static void methods() {
        Set<String> got = new TreeSet<>();
        for (Method m : FACE.getDeclaredMethods()) {
            if (Modifier.isPublic(m.getModifiers())) {
                Check.is("static " + m, Modifier.isStatic(m.getModifiers()), false);
                got.add(shape(m));
            }
        }
        Check.same("the face", got.toString(), new TreeSet<>(Arrays.asList(METHODS)).toString());
    }

    private static String shape(Method m) {
        StringBuilder text = new StringBuilder(m.getReturnType().getName()).append(' ').append(m.getName()).append('(');
        String between = "";
        for (Class<?> parameter : m.getParameterTypes()) {
            text.append(between).append(parameter.getName());
            between = ",";
        }
        return text.append(')').toString();
    }

    /** Exceptions that must be caught would keep a caller of the document's face from compiling. */
    private static void exceptionsThatNeedNoCatch() {
        for (Method m : FACE.getDeclaredMethods()) {
            for (Class<?> thrown : m.getExceptionTypes()) {
                Check.is(m + " throws " + thrown, RuntimeException.class.isAssignableFrom(thrown), true);
            }
        }
    }

    private static void otherMethodsArePrivate() {
        Set<String> names = new HashSet<>();
        for (String method : METHODS) {
            names.add(method.substring(method.indexOf(' ') + 1, method.indexOf('(')));
        }
        for (Method m : FACE.getDeclaredMethods()) {
            if (!Modifier.isPublic(m.getModifiers())) {
                Check.is("private " + m, Modifier.isPrivate(m.getModifiers()), true);
                Check.is("a private method bears a public name: " + m, names.contains(m.getName()), false);
            }
            Check.is("parameters of " + m, m.getParameterCount() <= 7, true);
        }
    }

    private static void classAndConstructor() {
        Check.is("public class", Modifier.isPublic(FACE.getModifiers()), true);
        Check.is("final class", Modifier.isFinal(FACE.getModifiers()), true);
        Check.is("no package", FACE.getPackageName().isEmpty(), true);
        Check.is("extends nothing", FACE.getSuperclass() == Object.class, true);
        Constructor<?>[] constructors = FACE.getDeclaredConstructors();
        Check.is("constructors", constructors.length, 1);
        Check.is("public constructor", Modifier.isPublic(constructors[0].getModifiers()), true);
        Check.is("constructor's parameters", constructors[0].getParameterCount(), 0);
    }

    private static void constants() {
        Set<String> got = new TreeSet<>();
        for (Field f : FACE.getDeclaredFields()) {
            if (!Modifier.isPrivate(f.getModifiers()) && !f.isSynthetic()) {
                got.add(Modifier.toString(f.getModifiers()) + " " + f.getType() + " " + f.getName());
            }
        }
        Check.same("constants", got.toString(), "[public static final int NONE]");
        Check.is("NONE", HistoryJudge.NONE, -1);
    }

    private static void noStaticState() {
        lookForStaticState(FACE);
        for (Class<?> inside : FACE.getDeclaredClasses()) {
            Check.is("public " + inside, Modifier.isPublic(inside.getModifiers()), false);
            lookForStaticState(inside);
        }
    }

    private static void lookForStaticState(Class<?> of) {
        for (Field f : of.getDeclaredFields()) {
            boolean movable = Modifier.isStatic(f.getModifiers()) && !Modifier.isFinal(f.getModifiers());
            Check.is("static state " + f, movable, false);
        }
    }

    private static void text() throws IOException {
        String text = Files.readString(Path.of("src/main/java/HistoryJudge.java"));
        Check.is("plain characters", text.chars().allMatch(c -> c < 256), true);
        String code = withoutCommentsAndTexts(text);
        for (String banned : BANNED) {
            Check.is("the code holds " + banned, code.contains(banned), false);
        }
        for (String line : code.split("\n")) {
            boolean isImport = line.startsWith("import ");
            if (isImport && !IMPORTS.contains(line.substring("import ".length()).replace(";", "").strip())) {
                Check.tell("import of " + line);
            }
            Check.is("package line", line.startsWith("package "), false);
        }
    }

    private static String withoutCommentsAndTexts(String text) {
        return text.replaceAll("(?s)/\\*.*?\\*/", "").replaceAll("//[^\n]*", "").replaceAll("\"[^\"\n]*\"", "\"\"");
    }
}
