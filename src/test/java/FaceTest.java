import java.io.IOException;
import java.lang.reflect.Field;
import java.lang.reflect.Method;
import java.lang.reflect.Modifier;
import java.nio.charset.StandardCharsets;
import java.nio.file.Files;
import java.nio.file.Path;
import java.util.List;
import java.util.Set;
import java.util.TreeMap;
import java.util.TreeSet;
import java.util.regex.Pattern;

/** The public face as the document has it, and what of LANGUAGE.md can be seen in the class and its text. */
public final class FaceTest {
    private static final Due DUE = new Due();
    private static final List<String> METHODS = List.of("int letter(int)", "int blank()", "int fault()", "int leaf()",
        "int about(int, int)", "int as(int, int)", "int write(int, int, int, int)", "int sand(int, boolean)",
        "int wet(int, int)", "int ink(int)", "int comes(int, int)", "int evening(int)", "int hills(int)",
        "int close(int, int)", "int toSand(int, int, int)", "int found(int, int, int)", "int forget()",
        "int look(int, int)", "int years(int, int, int)", "int image()", "int restore()", "int count(int)",
        "long digest()");
    private static final List<String> NOT_IN_THE_TEXT = List.of("\\bimport\\b", "\\bpackage\\b", "\\btry\\b",
        "\\bcatch\\b", "\\bfinally\\b", "\\bthrows?\\b", "\\bsynchronized\\b", "\\bassert\\b", "->", "::", "Exact\\(",
        "\\bSystem\\.(?!arraycopy)", "\\bstatic \\{", "[^\\x01-\\x7f]");

    public static void main(String[] args) throws IOException, IllegalAccessException {
        constants();
        methods();
        members();
        text();
        DUE.end("FaceTest");
    }

    private static void check(String what, boolean is) {
        DUE.is(what, is ? 1 : 0, 1);
    }

    private static void constants() throws IllegalAccessException {
        TreeMap<String, Integer> want = new TreeMap<>();
        want.put("NONE", -1);
        want.put("UNKNOWN", -101);
        want.put("OUTSIDE", -102);
        want.put("STATE", -103);
        want.put("FULL", -104);
        for (Field field : BlotLand.class.getDeclaredFields()) {
            int modifiers = field.getModifiers();
            if (Modifier.isPublic(modifiers)) {
                check(field.getName() + " is a static final int",
                    Modifier.isStatic(modifiers) && Modifier.isFinal(modifiers) && field.getType() == int.class);
                Integer due = want.remove(field.getName());
                check(field.getName() + " is of the face", due != null && due == field.getInt(null));
            }
        }
        check("no constant is missing: " + want.keySet(), want.isEmpty());
    }

    private static void methods() {
        Set<String> found = new TreeSet<>();
        for (Method method : BlotLand.class.getDeclaredMethods()) {
            if (!Modifier.isPrivate(method.getModifiers()) && !method.isSynthetic()) {
                StringBuilder text = new StringBuilder(method.getReturnType() + " " + method.getName() + "(");
                for (Class<?> type : method.getParameterTypes()) {
                    text.append(text.charAt(text.length() - 1) == '(' ? "" : ", ").append(type);
                }
                found.add(text.append(")").toString());
                check(method + " is public, and not static", method.getModifiers() == Modifier.PUBLIC);
                check(method + " names no exception", method.getExceptionTypes().length == 0);
            }
        }
        check("the methods are those of the face: " + found, found.equals(new TreeSet<>(METHODS)));
        check("one constructor", BlotLand.class.getDeclaredConstructors().length == 1);
        check("a public constructor without arguments", BlotLand.class.getConstructors().length == 1
            && BlotLand.class.getConstructors()[0].getParameterCount() == 0);
    }

    private static void members() {
        check("public and final", BlotLand.class.getModifiers() == (Modifier.PUBLIC | Modifier.FINAL));
        Set<String> names = new TreeSet<>();
        for (String method : METHODS) {
            names.add(method.substring(method.indexOf(' ') + 1, method.indexOf('(')));
        }
        privateNames(BlotLand.class, names);
        for (Class<?> inside : BlotLand.class.getDeclaredClasses()) {
            check(inside + " is static and not public", Modifier.isStatic(inside.getModifiers())
                && !Modifier.isPublic(inside.getModifiers()) && !Modifier.isProtected(inside.getModifiers()));
            privateNames(inside, names);
        }
        for (Field field : BlotLand.class.getDeclaredFields()) {
            int modifiers = field.getModifiers();
            check(field + " is no other member that is seen outside", Modifier.isPrivate(modifiers)
                || Modifier.isPublic(modifiers) && Modifier.isStatic(modifiers));
            check(field + " is final if static", !Modifier.isStatic(modifiers) || Modifier.isFinal(modifiers));
        }
    }

    private static void privateNames(Class<?> owner, Set<String> faceNames) {
        for (Method method : owner.getDeclaredMethods()) {
            boolean isFace = owner == BlotLand.class && Modifier.isPublic(method.getModifiers());
            check(method + " bears no name of the face", isFace || !faceNames.contains(method.getName()));
            check(method + " takes at most seven", method.getParameterCount() <= 7);
        }
    }

    private static void text() throws IOException {
        String text = Files.readString(Path.of("src/main/java/BlotLand.java"), StandardCharsets.UTF_8);
        for (String pattern : NOT_IN_THE_TEXT) {
            check("the text is without " + pattern, !Pattern.compile(pattern).matcher(text).find());
        }
        for (String line : text.split("\n")) {
            boolean makes = line.contains("new ") && !line.contains("//");
            boolean isForAll = line.contains("private final ") || line.contains("strokes[k] = new Stroke(k);");
            check("rows are made once, with the object: " + line.trim(), !makes || isForAll);
        }
    }
}
