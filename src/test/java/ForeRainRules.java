import java.lang.reflect.Constructor;
import java.lang.reflect.Field;
import java.lang.reflect.Method;
import java.lang.reflect.Modifier;
import java.nio.charset.StandardCharsets;
import java.nio.file.Files;
import java.nio.file.Path;
import java.util.ArrayList;
import java.util.Arrays;
import java.util.List;
import java.util.Map;
import java.util.Set;
import java.util.TreeMap;
import java.util.TreeSet;
import java.util.regex.Matcher;
import java.util.regex.Pattern;

/** The face of the document, and what can be seen by a program of the rules of LANGUAGE.md. */
public final class ForeRainRules {
    private static final String[] FACE = {
        "int type(long,int)", "int clear()", "int day()", "int piece(int,int)", "int spot(int,int)",
        "int sky(int)", "int hang(int,int)", "int rack(int)", "int basket(int)", "int go(int)",
        "int now(int)", "int anew()", "int when(int)", "int damp(int,int,int,int)",
        "int where(int,int)", "int order(int,int)", "long odds(int,int,int)", "int roomFor(int)",
        "int pegs()", "int coins(int)", "int held(int,int,int)", "int right(int)", "int better()",
        "int trust(int,int)", "int mark(int,int)", "int keep(int)", "int back(int)",
        "int count(int)", "long trace()"};
    private static final String[] CONSTANTS = {"BAD=-1", "STATE=-2", "FULL=-3", "NONE=-9", "NO=-1000000"};
    private static final String[] FORBIDDEN = {
        "throw", "throws", "try", "catch", "finally", "synchronized", "assert", "import", "package",
        "protected", "equals", "hashCode", "toString", "volatile", "transient", "native", "Object",
        "Integer", "Long", "Thread", "Runtime", "var"};
    private static final Set<String> CALLS_OF_LIBRARY = Set.of("Math.min", "Math.max", "System.arraycopy");
    private static int wrong = 0;
    private static int methods = 0;

    private static void rule(int number, boolean kept, String what) {
        if (!kept) {
            wrong++;
            System.out.println("rule " + number + ": " + what);
        }
    }

    public static void main(String[] args) throws Exception {
        theFace();
        List<Class<?>> all = new ArrayList<>(Arrays.asList(ForeRain.class.getDeclaredClasses()));
        all.add(ForeRain.class);
        for (Class<?> one : all) {
            insideOf(one);
        }
        rule(11, all.size() <= 12, "more than twelve classes");
        String source = System.getProperty("forerain.source", "src/main/java/ForeRain.java");
        theSource(Files.readString(Path.of(source), StandardCharsets.ISO_8859_1));
        System.out.println(wrong == 0 ? "all rules looked at are kept" : wrong + " rules are not kept");
        if (wrong != 0) {
            System.exit(1);
        }
    }

    private static void theFace() throws Exception {
        Set<String> seen = new TreeSet<>();
        for (Method method : ForeRain.class.getDeclaredMethods()) {
            if (Modifier.isPrivate(method.getModifiers())) {
                continue;
            }
            StringBuilder text = new StringBuilder(method.getReturnType() + " " + method.getName() + "(");
            for (Class<?> parameter : method.getParameterTypes()) {
                text.append(text.charAt(text.length() - 1) == '(' ? "" : ",").append(parameter);
            }
            seen.add(text.append(")").toString());
            rule(1, Modifier.isPublic(method.getModifiers()) && !Modifier.isStatic(method.getModifiers()),
                method + " is not of the face");
        }
        rule(1, seen.equals(new TreeSet<>(Arrays.asList(FACE))), "the methods are " + seen);
        Set<String> constants = new TreeSet<>();
        for (Field field : ForeRain.class.getDeclaredFields()) {
            if (!Modifier.isPrivate(field.getModifiers())) {
                int publicConstant = Modifier.PUBLIC | Modifier.STATIC | Modifier.FINAL;
                rule(1, field.getModifiers() == publicConstant, field + " is not of the face");
                constants.add(field.getName() + "=" + field.getInt(null));
            }
        }
        rule(1, constants.equals(new TreeSet<>(Arrays.asList(CONSTANTS))), "the constants are " + constants);
        Constructor<?>[] made = ForeRain.class.getDeclaredConstructors();
        rule(1, made.length == 1 && made[0].getParameterCount() == 0 && Modifier.isPublic(made[0].getModifiers()),
            "the constructors are " + Arrays.toString(made));
        rule(1, Modifier.isFinal(ForeRain.class.getModifiers()), "the class is not final");
    }

    private static void insideOf(Class<?> one) {
        Set<String> names = new TreeSet<>();
        for (String method : FACE) {
            names.add(method.substring(method.indexOf(' ') + 1, method.indexOf('(')));
        }
        for (Method method : one.getDeclaredMethods()) {
            rule(1, one == ForeRain.class && Modifier.isPublic(method.getModifiers())
                || !names.contains(method.getName()), method + " bears the name of a public one");
            rule(11, method.getParameterCount() <= 7, method + " takes more than seven");
            methods += method.isSynthetic() ? 0 : 1;
        }
        int fields = 0;
        for (Field field : one.getDeclaredFields()) {
            if (Modifier.isStatic(field.getModifiers())) {
                rule(5, Modifier.isFinal(field.getModifiers()), field + " is not final");
            } else {
                fields++;
            }
        }
        rule(11, fields <= 20, one + " has " + fields + " fields");
        rule(2, one == ForeRain.class || Modifier.isStatic(one.getModifiers()), one + " is not static");
        rule(2, one == ForeRain.class || Modifier.isPrivate(one.getModifiers()), one + " is not private");
        rule(2, one == ForeRain.class || one.getDeclaredClasses().length == 0, one + " has classes inside");
    }

    private static void theSource(String source) {
        for (int at = 0; at < source.length(); at++) {
            rule(4, source.charAt(at) < 128, "the sign " + (int) source.charAt(at));
        }
        String code = source.replaceAll("(?s)/\\*.*?\\*/", " ").replaceAll("//[^\n]*", " ")
            .replaceAll("\"[^\"\n]*\"", "\"\"");
        for (String word : FORBIDDEN) {
            rule(6, !Pattern.compile("\\b" + word + "\\b").matcher(code).find(), "the word " + word);
        }
        rule(2, !code.contains("->") && !code.contains("::"), "a lambda or a method reference");
        Matcher calls = Pattern.compile("\\b(Math|System|Arrays|String|StringBuilder)\\.\\w+").matcher(code);
        while (calls.find()) {
            rule(4, CALLS_OF_LIBRARY.contains(calls.group()), calls.group() + " is not among what this class uses");
        }
        theMethods(bodiesOf(code));
    }

    private static void theMethods(List<Body> bodies) {
        Map<String, Set<String>> calls = callsOf(bodies);
        for (Body body : bodies) {
            rule(11, body.lines <= 60, "a method of " + body.lines + " lines: " + body.name);
            rule(12, body.constructor || !body.text.matches("(?s).*\\bnew\\b.*"), body.name + " makes an object");
            List<String> chain = deepest(body.name, calls, List.of());
            rule(11, chain.size() <= 8, "calls go " + chain.size() + " deep: " + chain);
        }
        long found = bodies.stream().filter(body -> !body.constructor).count();
        rule(11, found == methods, "of " + methods + " methods " + found + " were found in the source");
        rule(11, deepest("day", calls, List.of()).size() >= 7, "the calls of day() were not found");
    }

    private record Body(String name, boolean constructor, int lines, String text) { }

    private static List<Body> bodiesOf(String code) {
        Pattern header = Pattern.compile(" +(?:[\\w\\[\\]]+ )*(\\w+)\\([\\w\\[\\], ]*\\) \\{");
        List<Body> bodies = new ArrayList<>();
        String[] lines = code.split("\n");
        for (int from = 0; from < lines.length; from++) {
            Matcher matcher = header.matcher(lines[from]);
            if (!matcher.matches() || lines[from].matches(".* (if|while|for|switch) .*")) {
                continue;
            }
            int indent = lines[from].indexOf(lines[from].trim());
            StringBuilder text = new StringBuilder();
            int to = from + 1;
            for (; to < lines.length && !lines[to].equals(" ".repeat(indent) + "}"); to++) {
                text.append(lines[to]).append('\n');
            }
            boolean constructor = matcher.group(1).matches("[A-Z]\\w*");
            bodies.add(new Body(matcher.group(1), constructor, to - from, text.toString()));
        }
        return bodies;
    }

    /** By names alone: methods of one name count as one, so a chain may seem longer, never shorter. */
    private static Map<String, Set<String>> callsOf(List<Body> bodies) {
        Map<String, Set<String>> calls = new TreeMap<>();
        for (Body body : bodies) {
            Set<String> called = calls.computeIfAbsent(body.name, name -> new TreeSet<>());
            Matcher matcher = Pattern.compile("\\b(\\w+)\\(").matcher(body.text);
            while (matcher.find()) {
                called.add(matcher.group(1));
            }
        }
        return calls;
    }

    /** The longest chain of calls from a method, itself included; one that calls itself counts once. */
    private static List<String> deepest(String name, Map<String, Set<String>> calls, List<String> open) {
        List<String> path = new ArrayList<>(open);
        path.add(name);
        List<String> longest = path;
        for (String called : calls.getOrDefault(name, Set.of())) {
            if (calls.containsKey(called) && !path.contains(called)) {
                List<String> longer = deepest(called, calls, path);
                longest = longer.size() > longest.size() ? longer : longest;
            }
        }
        return longest;
    }
}
