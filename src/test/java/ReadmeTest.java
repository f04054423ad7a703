import java.io.IOException;
import java.lang.reflect.Method;
import java.lang.reflect.Modifier;
import java.nio.charset.StandardCharsets;
import java.nio.file.DirectoryStream;
import java.nio.file.Files;
import java.nio.file.Path;
import java.util.LinkedHashMap;
import java.util.Map;
import java.util.Set;
import java.util.TreeSet;
import java.util.regex.Matcher;
import java.util.regex.Pattern;

/** README.md says what is so: its example, a row for each call with what it refuses, a row for each test. */
public final class ReadmeTest {
    private static final Due DUE = new Due();
    private static final Pattern TYPED = Pattern.compile("for \\(char c : \"([^\"]*)\"\\.toCharArray\\(\\)\\)");
    private static final Pattern ASKED = Pattern.compile("^land\\.(\\w+)\\(([^)]*)\\);\\s*// (-?\\d+|[A-Z]+)(:.*)?$");
    private static final Pattern ROW = Pattern.compile("^\\| `(\\w+)\\(([^)]*)\\)` \\| (.+) \\| (.+) \\|$");
    private static final Pattern PROMISED = Pattern.compile("^`(?:int|long) (\\w+)\\(([^)]*)\\)`: (.*)$");
    private static final Pattern REFUSAL = Pattern.compile("\\b(UNKNOWN|OUTSIDE|STATE|FULL)\\b");
    private static final Pattern CONSTANT = Pattern.compile("`([A-Z]+)` \\((-\\d+)\\)");

    /** What is told of a call: its parameters' names, and which refusals, in order. */
    record Told(String parameters, String refusals) { }

    public static void main(String[] args) throws IOException, ReflectiveOperationException {
        String readme = Files.readString(Path.of("README.md"), StandardCharsets.UTF_8);
        example(readme);
        constants(readme);
        rows(readme);
        tests(readme);
        DUE.end("ReadmeTest");
    }

    private static void check(String what, boolean is) {
        DUE.is(what, is ? 1 : 0, 1);
    }

    private static Set<String> face() {
        Set<String> names = new TreeSet<>();
        for (Method method : BlotLand.class.getDeclaredMethods()) {
            if (Modifier.isPublic(method.getModifiers())) {
                names.add(method.getName());
            }
        }
        return names;
    }

    private static void example(String readme) throws ReflectiveOperationException {
        int begin = readme.indexOf("```java");
        int end = readme.indexOf("```", begin + 3);
        check("there is an example", begin >= 0 && end > begin);
        BlotLand land = new BlotLand();
        Set<String> asked = new TreeSet<>();
        for (String line : readme.substring(begin, end).split("\n")) {
            Matcher typed = TYPED.matcher(line);
            if (typed.find()) {
                Due.type(land, typed.group(1));
            }
            Matcher call = ASKED.matcher(line);
            if (call.matches()) {
                DUE.is("the example: " + line, answer(land, call.group(1), call.group(2)), number(call.group(3)));
                asked.add(call.group(1));
            } else {
                check("told with its answer: " + line, !line.startsWith("land."));
            }
        }
        check("the example has each call of the face: " + asked, asked.equals(face()));
    }

    private static long answer(BlotLand land, String name, String arguments) throws ReflectiveOperationException {
        String[] texts = arguments.isEmpty() ? new String[0] : arguments.split(", ");
        for (Method method : BlotLand.class.getMethods()) {
            if (method.getName().equals(name) && method.getParameterCount() == texts.length) {
                Object[] values = new Object[texts.length];
                for (int i = 0; i < texts.length; i++) {
                    values[i] = value(texts[i], method.getParameterTypes()[i]);
                }
                return ((Number) method.invoke(land, values)).longValue();
            }
        }
        throw new NoSuchMethodException(name + "(" + arguments + ")");
    }

    private static Object value(String text, Class<?> type) {
        if (type == boolean.class) {
            return text.equals("true");
        }
        return text.startsWith("'") ? (int) text.charAt(1) : Integer.parseInt(text);
    }

    private static long number(String told) throws ReflectiveOperationException {
        boolean isNumber = told.charAt(0) == '-' || Character.isDigit(told.charAt(0));
        return isNumber ? Long.parseLong(told) : BlotLand.class.getField(told).getInt(null);
    }

    private static void constants(String readme) throws ReflectiveOperationException {
        Matcher told = CONSTANT.matcher(readme);
        Set<String> names = new TreeSet<>();
        while (told.find()) {
            DUE.is(told.group(1), Long.parseLong(told.group(2)), number(told.group(1)));
            names.add(told.group(1));
        }
        check("the constants: " + names, names.equals(Set.of("NONE", "UNKNOWN", "OUTSIDE", "STATE", "FULL")));
    }

    private static void rows(String readme) throws IOException {
        String document = Files.readString(Path.of("../shared/DOC.md"), StandardCharsets.UTF_8);
        Map<String, Told> promised = promised(document);
        Map<String, Told> told = new LinkedHashMap<>();
        for (String line : readme.split("\n")) {
            Matcher row = ROW.matcher(line);
            if (row.matches()) {
                String refusals = refusals(row.group(4));
                check(row.group(1) + " has one row", !told.containsKey(row.group(1)));
                check(row.group(1) + " tells its refusals, or that there is none",
                    row.group(4).equals("nothing") == refusals.isEmpty());
                told.put(row.group(1), new Told(row.group(2), refusals));
            }
        }
        check("a row for each call of the face: " + told.keySet(), told.keySet().equals(face()));
        check("a promise for each call of the face: " + promised.keySet(), promised.keySet().equals(face()));
        promised.forEach((name, due) ->
            check(name + " as promised, " + due + ", told: " + told.get(name), due.equals(told.get(name))));
    }

    private static Map<String, Told> promised(String document) {
        Map<String, Told> promised = new LinkedHashMap<>();
        for (String line : document.split("\n")) {
            Matcher promise = PROMISED.matcher(line);
            if (promise.matches()) {
                String parameters = promise.group(2).replaceAll("\\b(int|boolean) ", "");
                promised.put(promise.group(1), new Told(parameters, refusals(promise.group(3))));
            }
        }
        return promised;
    }

    private static String refusals(String text) {
        StringBuilder all = new StringBuilder();
        Matcher refusal = REFUSAL.matcher(text);
        while (refusal.find()) {
            all.append(all.length() == 0 ? "" : " ").append(refusal.group(1));
        }
        return all.toString();
    }

    private static void tests(String readme) throws IOException {
        try (DirectoryStream<Path> files = Files.newDirectoryStream(Path.of("src/test/java"), "*Test.java")) {
            for (Path file : files) {
                String name = file.getFileName().toString().replace(".java", "");
                check(name + " has its row", Pattern.compile("(?m)^\\|.*\\b" + name + "\\b").matcher(readme).find());
            }
        }
    }
}
