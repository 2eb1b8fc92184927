import java.io.IOException;
import java.util.ArrayList;
import java.util.HashSet;
import java.util.List;
import java.util.Map;
import java.util.Set;
import java.util.TreeSet;
import java.util.regex.Matcher;
import java.util.regex.Pattern;

/** The rules of ../shared/LANGUAGE.md, by their numbers, as far as the text of the class shows them kept. */
public final class LanguageTest {
    private static final Set<String> EXCEPTIONS = Set.of(
        "IllegalStateException", "IllegalArgumentException", "IndexOutOfBoundsException", "ArithmeticException",
        "UnsupportedOperationException", "NoSuchElementException", "RuntimeException");
    private static final Set<String> TYPES = Set.of("FiguredBass", "Math");
    private static final List<String> WRONG = new ArrayList<>();

    private static String code;
    private static Map<String, List<String>> methods;

    public static void main(String[] args) throws IOException {
        code = String.join("\n", Source.code());
        methods = Source.methods();
        allMethodsAreSeen();
        oneClassWithoutPackage();
        noWordsThatAreRuledOut();
        typesThatAreListed();
        textsInExceptionsAlone();
        doublesInTheMeanAlone();
        staticArraysStayAsTheyAre();
        exceptionsThatAreListed();
        nothingIsThrownInTheConstructor();
        noRecursion();
        eightCallsDeep();
        methodsAreShort();
        fewFields();
        objectsInTheConstructorAlone();
        WRONG.forEach(System.out::println);
        System.out.println(WRONG.size() + " wrong things about the text of the class");
        if (!WRONG.isEmpty()) {
            System.exit(1);
        }
    }

    /** So that no method escapes the other tests. */
    private static void allMethodsAreSeen() {
        Set<String> due = new TreeSet<>();
        for (java.lang.reflect.Method method : FiguredBass.class.getDeclaredMethods()) {
            due.add(method.getName());
        }
        due.add("FiguredBass");
        holds(due.equals(new TreeSet<>(methods.keySet())), "the methods of the text are not " + due);
    }

    private static void oneClassWithoutPackage() {
        hasNone("no package, no import (head, 4)", "(?m)^\\s*(package|import)\\b");
        hasNone("no other class ahead of or behind it (head)", "(?m)^(?!public final class FiguredBass \\{|\\})\\S");
        hasNone("no member between private and public (1)", "(?m)^    (?!private |public |}|    | *$)");
    }

    private static void noWordsThatAreRuledOut() {
        hasNone("no lambda, no method reference (2)", "->|::");
        hasNone("no try (6; nothing here has to be caught)", "\\b(try|catch|finally)\\b");
        hasNone("none of these words (6)", "\\b(synchronized|assert)\\b");
        hasNone("no initialiser block (5)", "static\\s*\\{");
        hasNone("nothing is cast but numbers (6, 7)", "\\((?!double\\b)[A-Za-z]+\\)\\s*[\\w(]");
        hasNone("no equals, hashCode, toString (6)", "\\b(equals|hashCode|toString)\\b");
        hasNone("none that ends in Exact (4)", "Exact\\b");
    }

    private static void typesThatAreListed() {
        // Names of types and of the library begin with one capital letter; constants have no small ones.
        Matcher name = Pattern.compile("\\b[A-Z]\\w*[a-z]\\w*\\b").matcher(code);
        while (name.find()) {
            boolean listed = TYPES.contains(name.group()) || EXCEPTIONS.contains(name.group());
            holds(listed, name.group() + " is not listed (4)");
        }
        Matcher function = Pattern.compile("\\bMath\\.(\\w+)").matcher(code);
        while (function.find()) {
            holds(Set.of("abs", "max", "min").contains(function.group(1)), function.group() + " is not listed (4)");
        }
        for (String line : code.split("\n")) {
            holds(line.chars().allMatch(sign -> sign >= 1 && sign <= 127), "signs of 1 to 127 (4): " + line);
        }
    }

    private static void textsInExceptionsAlone() {
        for (String line : code.split("\n")) {
            holds(!line.contains("\"") || line.contains("throw new "), "a text in an exception alone (10): " + line);
        }
    }

    private static void doublesInTheMeanAlone() {
        for (Map.Entry<String, List<String>> method : methods.entrySet()) {
            boolean has = Pattern.compile("\\b(double|float)\\b").matcher(textOf(method.getKey())).find();
            holds(has == method.getKey().equals("mean"), "doubles in the mean alone (3): " + method.getKey());
        }
    }

    private static void staticArraysStayAsTheyAre() {
        Matcher array = Pattern.compile("static final \\w+\\[\\] (\\w+) = (.)").matcher(code);
        int found = 0;
        while (array.find()) {
            found++;
            holds(array.group(2).equals("{"), array.group(1) + " is written out (5)");
            hasNone(array.group(1) + " is never changed (5)",
                array.group(1) + "\\[[^\\]]*\\]\\s*(=[^=]|\\+\\+|--|[-+*/|&^]=)");
        }
        holds(found > 0, "there are static arrays to look at");
    }

    private static void exceptionsThatAreListed() {
        Matcher thrown = Pattern.compile("\\bthrow\\b(.*)").matcher(code);
        while (thrown.find()) {
            Matcher right = Pattern.compile(" new (\\w+)\\(\"\"\\);").matcher(thrown.group(1));
            holds(right.matches() && EXCEPTIONS.contains(right.group(1)), "throw" + thrown.group(1) + " (6)");
        }
    }

    private static void nothingIsThrownInTheConstructor() {
        holds(!textOf("FiguredBass").contains("throw"), "no throw in the constructor (6)");
        holds(callsOf("FiguredBass").isEmpty(), "the constructor calls nothing (12)");
    }

    private static void noRecursion() {
        for (String method : methods.keySet()) {
            holds(!reached(method, new HashSet<>()).contains(method), method + " comes back to itself (8)");
        }
    }

    private static void eightCallsDeep() {
        for (String method : methods.keySet()) {
            int deep = depthOf(method, methods.size());
            holds(deep <= 8, method + " goes " + deep + " calls deep (11)");
        }
    }

    private static void methodsAreShort() {
        for (Map.Entry<String, List<String>> method : methods.entrySet()) {
            int lines = method.getValue().size();
            holds(lines <= 60, method.getKey() + " has " + lines + " lines (11)");
            String head = method.getValue().get(0);
            String parameters = head.substring(head.indexOf('('), head.indexOf(')'));
            holds(parameters.split(",").length <= 7, method.getKey() + " has more than 7 parameters (11)");
        }
    }

    private static void fewFields() {
        int fields = 0;
        for (java.lang.reflect.Field field : FiguredBass.class.getDeclaredFields()) {
            fields += java.lang.reflect.Modifier.isStatic(field.getModifiers()) ? 0 : 1;
        }
        holds(fields > 0 && fields <= 20, "there are " + fields + " fields (11)");
    }

    /** All calls of a run live in one room: a call makes nothing, so only the objects count. */
    private static void objectsInTheConstructorAlone() {
        for (String method : methods.keySet()) {
            String made = textOf(method).replaceAll("throw new ", "");
            holds(method.equals("FiguredBass") || !Pattern.compile("\\bnew\\b|\\bclone\\b").matcher(made).find(),
                method + " makes an object (12)");
        }
    }

    private static String textOf(String method) {
        return String.join("\n", methods.getOrDefault(method, List.of()));
    }

    /** The methods that a method calls. */
    private static Set<String> callsOf(String method) {
        Set<String> calls = new TreeSet<>();
        List<String> lines = methods.get(method);
        String body = String.join("\n", lines.subList(1, lines.size()));
        Matcher call = Pattern.compile("(?<!new )\\b(\\w+)\\(").matcher(body);
        while (call.find()) {
            if (methods.containsKey(call.group(1))) {
                calls.add(call.group(1));
            }
        }
        return calls;
    }

    private static Set<String> reached(String method, Set<String> seen) {
        for (String called : callsOf(method)) {
            if (seen.add(called)) {
                reached(called, seen);
            }
        }
        return seen;
    }

    /** The limit ends the search where methods call one another; noRecursion tells of that. */
    private static int depthOf(String method, int limit) {
        int deepest = 0;
        for (String called : callsOf(method)) {
            deepest = Math.max(deepest, limit == 0 ? 0 : depthOf(called, limit - 1));
        }
        return 1 + deepest;
    }

    private static void hasNone(String text, String pattern) {
        Matcher found = Pattern.compile(pattern).matcher(code);
        holds(!found.find(), text);
    }

    private static void holds(boolean holds, String text) {
        if (!holds) {
            WRONG.add("wrong: " + text);
        }
    }
}
