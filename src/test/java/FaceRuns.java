import java.io.IOException;
import java.lang.reflect.Constructor;
import java.lang.reflect.Field;
import java.lang.reflect.Method;
import java.lang.reflect.Modifier;
import java.nio.file.Files;
import java.nio.file.Path;
import java.util.Arrays;
import java.util.List;
import java.util.Set;
import java.util.TreeSet;
import java.util.regex.Matcher;
import java.util.regex.Pattern;

/** The face of the class, as the document writes it, and such rules of LANGUAGE.md as can be seen by simple means. */
public final class FaceRuns {
    private static final String[] FACE = {
        "int kind(int, int, int)", "boolean is(int, int)", "int list(int, int)", "int meet(int, int, int)",
        "int function(int)", "int method(int, int, int, int)", "int drop(int, int)", "int rule()", "int count(int)",
        "int of(int, int)", "int at(int, int, int) NoSuchElementException", "int call(int, int)",
        "int answer(int, int)", "int applicable(int, int)", "int chain(int, int, int)", "int broken(int, int)",
        "int work(int, int) NoSuchElementException", "int kept(int, int)", "int clash(int, int)", "int gap(int, int)",
        "int fight(int, int, int)", "int pole(int, int, int)", "int change(int, int)", "int settle(int)"};

    private static final String[] FORBIDDEN = {"->", "::", "\\bfinally\\b", "\\bsynchronized\\b", "\\bassert\\b",
        "\\bcatch\\b", "\\bSystem\\.(?!arraycopy)", "\\bThread\\b", "\\bRandom\\b", "Exact\\(", "\\bvolatile\\b",
        "\\bprotected\\b", "\\bpackage\\b", "\\bhashCode\\b", "\\bObject\\b", "static\\s*\\{"};

    private static int wrong = 0;

    private static void due(String what, Object got, Object want) {
        if (!got.equals(want)) {
            wrong++;
            System.out.println(what + " is " + got + ", due is " + want);
        }
    }

    public static void main(String[] args) throws IOException {
        face();
        inside();
        String text = Files.readString(Path.of("src/main/java/TupleMethods.java"));
        asWritten(text, Files.readString(Path.of("../shared/DOC.md")));
        source(text);
        System.out.println(wrong == 0 ? "the face is as due" : wrong + " things are not as due");
        if (wrong != 0) {
            System.exit(1);
        }
    }

    private static void face() {
        Class<?> c = TupleMethods.class;
        due("the class's modifiers", Modifier.toString(c.getModifiers()), "public final");
        due("the class above", c.getSuperclass(), Object.class);
        Set<String> methods = new TreeSet<>();
        Set<String> names = new TreeSet<>();
        for (Method m : c.getDeclaredMethods()) {
            if (!Modifier.isPrivate(m.getModifiers())) {
                due("modifiers of " + m.getName(), Modifier.toString(m.getModifiers()), "public");
                methods.add(told(m));
                names.add(m.getName());
            }
        }
        due("the public methods", methods, new TreeSet<>(Arrays.asList(FACE)));
        for (Method m : c.getDeclaredMethods()) {
            if (Modifier.isPrivate(m.getModifiers())) {
                due(m.getName() + " is private and a name of the face", names.contains(m.getName()), false);
            }
        }
        Constructor<?>[] made = c.getDeclaredConstructors();
        due("constructors", made.length, 1);
        due("the constructor", made[0].toString(), "public TupleMethods()");
        for (Field f : c.getDeclaredFields()) {
            boolean own = f.getName().equals("NONE");
            due("modifiers of " + f.getName() + " (public)", Modifier.isPublic(f.getModifiers()), own);
            due("modifiers of " + f.getName() + " (private)", Modifier.isPrivate(f.getModifiers()), !own);
            due("static and not final: " + f.getName(),
                Modifier.isStatic(f.getModifiers()) && !Modifier.isFinal(f.getModifiers()), false);
        }
        due("NONE", TupleMethods.NONE, -1);
    }

    private static String told(Method m) {
        StringBuilder s = new StringBuilder(m.getReturnType().getSimpleName()).append(' ').append(m.getName());
        List<String> types = Arrays.stream(m.getParameterTypes()).map(Class::getSimpleName).toList();
        s.append('(').append(String.join(", ", types)).append(')');
        for (Class<?> e : m.getExceptionTypes()) {
            s.append(' ').append(e.getSimpleName());
        }
        return s.toString();
    }

    private static boolean isNameOfFace(String name) {
        return Arrays.stream(FACE).anyMatch(f -> f.contains(" " + name + "("));
    }

    private static void inside() {
        Class<?>[] all = TupleMethods.class.getDeclaredClasses();
        due("at most 11 classes inside", all.length <= 11, true);
        for (Class<?> c : all) {
            due(c.getName() + " is static", Modifier.isStatic(c.getModifiers()), true);
            due(c.getName() + " is public", Modifier.isPublic(c.getModifiers()), false);
            due(c.getName() + " has at most 20 fields", c.getDeclaredFields().length <= 20, true);
            for (Method m : c.getDeclaredMethods()) {
                due(m + " takes at most seven", m.getParameterCount() <= 7, true);
                due(m + " has a name of the face", isNameOfFace(m.getName()), false);
            }
        }
    }

    /** Each line of the document's face stands in the source as it is, a body instead of the semicolon. */
    private static void asWritten(String text, String document) {
        Matcher face = Pattern.compile("(?s)## The public face\\s+```java\n(.*?)```").matcher(document);
        due("a face in the document", face.find(), true);
        int members = 0;
        for (String line : face.group(1).split("\n")) {
            boolean isBare = line.endsWith(";") && line.contains("(");
            String want = isBare ? line.substring(0, line.length() - 1) + " {" : line;
            due("in the source: " + want, ("\n" + text).contains("\n" + want + "\n"), true);
            members += isBare ? 1 : 0;
        }
        due("constructors and methods of the face", members, FACE.length + 1);
    }

    private static void source(String text) {
        for (int i = 0; i < text.length(); i++) {
            if (text.charAt(i) > 126) {
                due("the sign at " + i, text.charAt(i), "one of ASCII");
            }
        }
        String code = text.replaceAll("(?s)/\\*.*?\\*/", "").replaceAll("//[^\n]*", "")
            .replaceAll("\"[^\"\n]*\"", "\"\"");
        for (String f : FORBIDDEN) {
            due(f + " stands in the source", Pattern.compile(f).matcher(code).find(), false);
        }
        Matcher imports = Pattern.compile("import ([^;]*);").matcher(code);
        while (imports.find()) {
            due("the import", imports.group(1), "java.util.NoSuchElementException");
        }
        Matcher thrown = Pattern.compile("throw\\b(?!s)([^;]*);").matcher(code);
        while (thrown.find()) {
            due("what is thrown", thrown.group(1), " new NoSuchElementException(\"\")");
        }
        lengths(text.split("\n"));
    }

    /** A method ends with a brace as far in as its head. */
    private static void lengths(String[] lines) {
        Pattern head = Pattern.compile("( {4}| {8})\\w[^;=]*\\) (throws \\w+ )?\\{");
        for (int i = 0; i < lines.length; i++) {
            Matcher m = head.matcher(lines[i]);
            if (m.matches() && !lines[i].trim().matches("(if|for|while|switch|else)\\b.*")) {
                int end = i;
                while (end < lines.length - 1 && !lines[end].equals(m.group(1) + "}")) {
                    end++;
                }
                due("at most 60 lines from line " + (i + 1), end - i < 60, true);
            }
        }
    }
}
