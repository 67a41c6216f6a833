import java.io.IOException;
import java.lang.reflect.Constructor;
import java.lang.reflect.Field;
import java.lang.reflect.Method;
import java.lang.reflect.Modifier;
import java.nio.file.Files;
import java.nio.file.Path;
import java.util.Arrays;
import java.util.HashSet;
import java.util.Set;
import java.util.TreeSet;

/** The public face of the document, and what of LANGUAGE.md can be seen without reading closely. */
public final class FaceTest {
    private static final String[] FACE = {
        "int add(int,int,int,int)",
        "int clear()",
        "int make(long,int,int,int)",
        "int flaws(int)",
        "boolean run(int)",
        "int fails(long,int)",
        "int shrink(long,int)",
        "int command(int,int)",
        "int event(int,int)",
        "int order(int)",
        "int cell(int)",
        "int count(int)",
        "int tally(int)",
    };

    private static final String[] BANNED = {
        "->", "::", "finally", "synchronized", "assert ", "static {", "catch", "Math.random", "nanoTime",
        "currentTimeMillis", "Random", "Exact(", "hashCode", "toString", "System.out",
    };

    private FaceTest() {
    }

    public static void main(String[] args) throws IOException {
        face();
        members();
        text();
        Check.end();
    }

    private static void face() {
        Set<String> got = new TreeSet<>();
        Set<String> names = new HashSet<>();
        for (Method m : HistoryJudge.class.getDeclaredMethods()) {
            if (Modifier.isPublic(m.getModifiers())) {
                Check.is("static " + m, Modifier.isStatic(m.getModifiers()), false);
                got.add(shape(m));
                names.add(m.getName());
            }
        }
        Set<String> due = new TreeSet<>(Arrays.asList(FACE));
        if (!got.equals(due)) {
            Check.tell("the face is " + got + ", due is " + due);
        }
        for (Method m : HistoryJudge.class.getDeclaredMethods()) {
            if (!Modifier.isPublic(m.getModifiers())) {
                Check.is("private " + m, Modifier.isPrivate(m.getModifiers()), true);
                Check.is("a private method bears a public name: " + m, names.contains(m.getName()), false);
            }
        }
    }

    private static String shape(Method m) {
        StringBuilder text = new StringBuilder(m.getReturnType().getName()).append(' ').append(m.getName()).append('(');
        String between = "";
        for (Class<?> parameter : m.getParameterTypes()) {
            text.append(between).append(parameter.getName());
            between = ",";
        }
        return text.append(')').toString();
    }

    private static void members() {
        Class<?> face = HistoryJudge.class;
        Check.is("final class", Modifier.isFinal(face.getModifiers()), true);
        Constructor<?>[] constructors = face.getDeclaredConstructors();
        Check.is("constructors", constructors.length, 1);
        Check.is("public constructor", Modifier.isPublic(constructors[0].getModifiers()), true);
        Check.is("constructor's parameters", constructors[0].getParameterCount(), 0);
        for (Field f : face.getDeclaredFields()) {
            boolean constant = f.getName().equals("NONE");
            Check.is("public field " + f, Modifier.isPublic(f.getModifiers()), constant);
            Check.is("private field " + f, Modifier.isPrivate(f.getModifiers()), !constant);
        }
        Check.is("classes inside", face.getDeclaredClasses().length <= 12, true);
        for (Class<?> inside : face.getDeclaredClasses()) {
            Check.is("static " + inside, Modifier.isStatic(inside.getModifiers()), true);
            Check.is("public " + inside, Modifier.isPublic(inside.getModifiers()), false);
            for (Field f : inside.getDeclaredFields()) {
                boolean movable = Modifier.isStatic(f.getModifiers()) && !Modifier.isFinal(f.getModifiers());
                Check.is("static state " + f, movable, false);
            }
        }
    }

    private static void text() throws IOException {
        String text = Files.readString(Path.of("src/main/java/HistoryJudge.java"));
        for (String banned : BANNED) {
            Check.is("the text holds " + banned, text.contains(banned), false);
        }
        for (String line : text.split("\n")) {
            if (line.startsWith("import ") && !line.equals("import java.util.NoSuchElementException;")) {
                Check.tell("import of " + line);
            }
            Check.is("package line", line.startsWith("package "), false);
        }
        Check.is("plain characters", text.chars().allMatch(c -> c < 256), true);
    }
}
