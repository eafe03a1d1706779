import java.lang.reflect.Constructor;
import java.lang.reflect.Field;
import java.lang.reflect.Method;
import java.lang.reflect.Modifier;
import java.nio.file.Files;
import java.nio.file.Path;
import java.util.Arrays;
import java.util.Set;
import java.util.TreeSet;
import java.util.regex.Matcher;
import java.util.regex.Pattern;

/** The face, and those rules of LANGUAGE.md that a reader without a compiler can see. */
public final class LanguageTest {
    private static final String[] FACE = {"feed(IIIII)I", "end(I)Z", "store()I", "fault(I)I", "has(I)I", "backup(II)I", "piece(III)I",
        "box(II)I", "octet(II)I", "cuts(I)I", "shared(II)I", "edit(III)I", "why(II)I", "fetches(II)I", "later(II)I", "expires(I)I",
        "gain(I)I", "odds(I)I", "meet()I", "windows(I)I", "tells(II)I", "save()I", "forget(I)Z", "days(I)I", "chance(I)I", "clean()I",
        "spoil(II)Z", "smash(I)Z", "undo()Z", "seed(I)Z", "kept(II)I", "status(I)I"};

    public static void main(String[] args) throws Exception {
        face();
        nested();
        source(Files.readString(Path.of("src/main/java/PieceStore.java")));
        Due.ends("LanguageTest");
    }

    private static String shape(Method m) {
        StringBuilder s = new StringBuilder(m.getName()).append('(');
        for (Class<?> c : m.getParameterTypes()) {
            s.append(c == int.class ? 'I' : '?');
        }
        return s.append(')').append(m.getReturnType() == int.class ? 'I' : m.getReturnType() == boolean.class ? 'Z' : '?').toString();
    }

    private static void face() throws Exception {
        Class<?> c = PieceStore.class;
        Due.is("public and final", Modifier.isPublic(c.getModifiers()) && Modifier.isFinal(c.getModifiers()), true);
        Set<String> want = new TreeSet<>(Arrays.asList(FACE));
        Set<String> got = new TreeSet<>();
        for (Method m : c.getDeclaredMethods()) {
            if (!Modifier.isPrivate(m.getModifiers())) {
                got.add(shape(m));
                Due.is("public: " + m, Modifier.isPublic(m.getModifiers()) && !Modifier.isStatic(m.getModifiers()), true);
            }
        }
        Due.is("the methods of the face " + got, got.equals(want), true);
        for (Field f : c.getDeclaredFields()) {
            boolean none = f.getName().equals("NONE");
            Due.is("field " + f, Modifier.isPrivate(f.getModifiers()), !none);
        }
        Constructor<?>[] made = c.getDeclaredConstructors();
        Due.is("one constructor", made.length == 1 && Modifier.isPublic(made[0].getModifiers()) && made[0].getParameterCount() == 0, true);
    }

    private static void nested() {
        Set<String> face = new TreeSet<>();
        for (String f : FACE) {
            face.add(f.substring(0, f.indexOf('(')));
        }
        Class<?>[] inside = PieceStore.class.getDeclaredClasses();
        Due.is("at most twelve classes", inside.length + 1 <= 12, true);
        for (Class<?> c : inside) {
            int mods = c.getModifiers();
            Due.is(c + " is static and not public", Modifier.isStatic(mods) && !Modifier.isPublic(mods) && !Modifier.isProtected(mods), true);
            fieldsOf(c);
            for (Method m : c.getDeclaredMethods()) {
                Due.is(m + " has a name of its own", face.contains(m.getName()), false);
                Due.is(m + " has at most seven parameters", m.getParameterCount() <= 7, true);
            }
        }
        fieldsOf(PieceStore.class);
        for (Method m : PieceStore.class.getDeclaredMethods()) {
            Due.is(m + ": no private one with the name of a public one", Modifier.isPrivate(m.getModifiers()) && face.contains(m.getName()), false);
        }
    }

    private static void fieldsOf(Class<?> c) {
        int own = 0;
        for (Field f : c.getDeclaredFields()) {
            if (Modifier.isStatic(f.getModifiers())) {
                Class<?> t = f.getType();
                boolean plain = t == int.class || t == long.class || t == boolean.class || t == char.class || t == String.class
                    || t == int[].class || t == long[].class || t == char[].class || t == byte[].class;
                Due.is(f + " is a constant", Modifier.isFinal(f.getModifiers()) && plain, true);
            } else {
                own++;
            }
        }
        Due.is(c + " has some twenty fields", own <= 20, true);
    }

    private static void source(String text) {
        for (int i = 0; i < text.length(); i++) {
            if (text.charAt(i) > 126) {
                Due.is("a sign beyond 126 at " + i, true, false);
            }
        }
        String code = text.replaceAll("(?s)/\\*.*?\\*/", "").replaceAll("//[^\n]*", "").replaceAll("\"[^\"\n]*\"", "\"\"");
        for (String word : new String[] {"throw", "throws", "try", "catch", "finally", "synchronized", "assert", "new Thread", "Object", "double",
            "float", "volatile", "transient", "native", "var", "package", "protected", "interface", "Exact"}) {
            Due.is("the word " + word, Pattern.compile("\\b" + word + "\\b").matcher(code).find(), false);
        }
        Due.is("no lambda", code.contains("->"), false);
        Due.is("no method reference", code.contains("::"), false);
        Due.is("no joining of texts by +", Pattern.compile("\"\"\\s*\\+|\\+\\s*\"\"").matcher(code).find(), false);
        Due.is("no endless loop", Pattern.compile("while\\s*\\(\\s*true|for\\s*\\(\\s*;").matcher(code).find(), false);
        Matcher m = Pattern.compile("import ([^;]+);").matcher(code);
        while (m.find()) {
            Due.is("import " + m.group(1), m.group(1).equals("java.util.Arrays"), true);
        }
        longestMethod(code);
    }

    private static void longestMethod(String code) {
        String[] lines = code.split("\n");
        int begun = -1;
        String indent = "";
        for (int i = 0; i < lines.length; i++) {
            Matcher m = Pattern.compile("^( {4}| {8})[a-z].*\\) \\{$").matcher(lines[i]);
            if (begun < 0 && m.find()) {
                begun = i;
                indent = m.group(1);
            } else if (begun >= 0 && lines[i].equals(indent + "}")) {
                Due.is("the method at line " + begun + " is short", i - begun <= 60, true);
                begun = -1;
            }
        }
    }
}
