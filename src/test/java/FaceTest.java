import java.io.IOException;
import java.lang.reflect.Constructor;
import java.lang.reflect.Field;
import java.lang.reflect.Method;
import java.lang.reflect.Modifier;
import java.util.ArrayList;
import java.util.Arrays;
import java.util.HashSet;
import java.util.List;
import java.util.Set;
import java.util.TreeSet;

/**
 * The public face is that of the document, in its order and under its headings, and nothing more can be
 * seen (LANGUAGE.md, 1 and 5).
 */
public final class FaceTest {
    private static final String[] FACE = {
        "int advise(int) IndexOutOfBoundsException",
        "int best(int) IndexOutOfBoundsException",
        "int chord(int, int) IllegalArgumentException IllegalStateException",
        "int count(int) IndexOutOfBoundsException",
        "int drop() IllegalStateException",
        "int faults(int, int) IndexOutOfBoundsException",
        "int lead(int) IndexOutOfBoundsException IllegalStateException",
        "int leadAll()",
        "int note(int, int) IndexOutOfBoundsException",
        "int pitch(int) IllegalArgumentException",
        "int put(int, int, int) IndexOutOfBoundsException IllegalArgumentException",
        "int setBass(int, int) IndexOutOfBoundsException IllegalArgumentException",
        "int setFigure(int, int) IndexOutOfBoundsException IllegalArgumentException",
        "int setWeight(int, int) IndexOutOfBoundsException IllegalArgumentException",
        "int told(int, int) IndexOutOfBoundsException",
        "int ways(int) IndexOutOfBoundsException",
        "int would(int, int, int) IndexOutOfBoundsException IllegalArgumentException",
        "boolean fits(int, int, int) IndexOutOfBoundsException IllegalArgumentException",
        "boolean setKey(boolean)",
        "double mean()",
        "long digest()",
    };

    /** 'The public face' as the document writes it, and the headings that 'the interface says'. */
    private static final String[] WRITTEN = {
        "public final class FiguredBass",
        "public FiguredBass()",
        "// ---- the row.",
        "public int chord(int bass, int figure) throws IllegalArgumentException, IllegalStateException",
        "public int setBass(int chord, int bass) throws IndexOutOfBoundsException, IllegalArgumentException",
        "public int setFigure(int chord, int figure) throws IndexOutOfBoundsException, IllegalArgumentException",
        "public int put(int chord, int voice, int note) throws IndexOutOfBoundsException, IllegalArgumentException",
        "public int drop() throws IllegalStateException",
        "public boolean setKey(boolean minor)",
        "public int setWeight(int fault, int weight) throws IndexOutOfBoundsException, IllegalArgumentException",
        "public int lead(int chord) throws IndexOutOfBoundsException, IllegalStateException",
        "public int leadAll()",
        "// ---- what there is.",
        "public int note(int chord, int voice) throws IndexOutOfBoundsException",
        "public int told(int chord, int what) throws IndexOutOfBoundsException",
        "public int faults(int chord, int fault) throws IndexOutOfBoundsException",
        "public int count(int what) throws IndexOutOfBoundsException",
        "public int pitch(int note) throws IllegalArgumentException",
        "public boolean fits(int chord, int voice, int note) "
            + "throws IndexOutOfBoundsException, IllegalArgumentException",
        "public int ways(int chord) throws IndexOutOfBoundsException",
        "// ---- what would be.",
        "public int would(int chord, int voice, int note) throws IndexOutOfBoundsException, IllegalArgumentException",
        "public int best(int chord) throws IndexOutOfBoundsException",
        "public int advise(int chord) throws IndexOutOfBoundsException",
        "public double mean()",
        "public long digest()",
    };

    private static final List<String> WRONG = new ArrayList<>();

    public static void main(String[] args) throws IOException {
        theClassIsPublicAndFinal();
        oneConstructor();
        theMethods();
        theFields();
        asTheDocumentWritesIt();
        WRONG.forEach(System.out::println);
        System.out.println(WRONG.size() + " wrong things about the face");
        if (!WRONG.isEmpty()) {
            System.exit(1);
        }
    }

    private static void theClassIsPublicAndFinal() {
        int modifiers = FiguredBass.class.getModifiers();
        holds(Modifier.isPublic(modifiers) && Modifier.isFinal(modifiers), "the class is public and final");
        holds(FiguredBass.class.getSuperclass() == Object.class, "the class extends nothing");
        holds(FiguredBass.class.getInterfaces().length == 0, "the class implements nothing");
    }

    private static void oneConstructor() {
        Constructor<?>[] all = FiguredBass.class.getDeclaredConstructors();
        holds(all.length == 1, "there is one constructor");
        holds(Modifier.isPublic(all[0].getModifiers()), "the constructor is public");
        holds(all[0].getParameterCount() == 0, "the constructor has no parameters");
        holds(all[0].getExceptionTypes().length == 0, "the constructor declares no exceptions");
    }

    private static void theMethods() {
        Set<String> seen = new TreeSet<>();
        Set<String> publicNames = new HashSet<>();
        Set<String> privateNames = new HashSet<>();
        for (Method method : FiguredBass.class.getDeclaredMethods()) {
            if (Modifier.isPrivate(method.getModifiers())) {
                privateNames.add(method.getName());
            } else {
                seen.add(textOf(method));
                publicNames.add(method.getName());
                holds(method.getModifiers() == Modifier.PUBLIC, method.getName() + " is public, and no more");
            }
        }
        holds(seen.equals(new TreeSet<>(Arrays.asList(FACE))), "the methods are those of the face, not " + seen);
        privateNames.retainAll(publicNames);
        holds(privateNames.isEmpty(), "no private method bears the name of a public one: " + privateNames);
    }

    private static String textOf(Method method) {
        StringBuilder text = new StringBuilder(method.getReturnType() + " " + method.getName() + "(");
        for (int k = 0; k < method.getParameterCount(); k++) {
            text.append(k == 0 ? "" : ", ").append(method.getParameterTypes()[k]);
        }
        text.append(")");
        for (Class<?> exception : method.getExceptionTypes()) {
            text.append(" ").append(exception.getSimpleName());
        }
        return text.toString();
    }

    private static void theFields() {
        for (Field field : FiguredBass.class.getDeclaredFields()) {
            int modifiers = field.getModifiers();
            holds(Modifier.isPrivate(modifiers), field.getName() + " is private");
            holds(!Modifier.isStatic(modifiers) || Modifier.isFinal(modifiers), field.getName() + " is final");
        }
    }

    /** Its lines and its headings stand in the text of the class, in this order, and no other public ones. */
    private static void asTheDocumentWritesIt() throws IOException {
        List<String> found = new ArrayList<>();
        for (String line : Source.lines()) {
            String text = line.replaceAll("\\s*\\{$", "").trim();
            if (text.startsWith("public ") || text.startsWith("// ---- ")) {
                found.add(text);
            }
        }
        // What is behind the last call of the face may have headings of its own.
        int last = found.indexOf(WRITTEN[WRITTEN.length - 1]);
        holds(found.subList(0, last + 1).equals(Arrays.asList(WRITTEN)), "the face is not written as due: " + found);
        holds(found.stream().skip(last + 1).noneMatch(text -> text.startsWith("public ")), "and no more is public");
    }

    private static void holds(boolean holds, String text) {
        if (!holds) {
            WRONG.add("wrong: " + text);
        }
    }
}
