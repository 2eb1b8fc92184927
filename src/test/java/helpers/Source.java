import java.io.IOException;
import java.nio.file.Files;
import java.nio.file.Path;
import java.util.ArrayList;
import java.util.LinkedHashMap;
import java.util.List;
import java.util.Map;
import java.util.regex.Matcher;
import java.util.regex.Pattern;

/** The text of the class, as .ci/run finds it: from the top of the checkout. */
final class Source {
    private static final Path FILE = Path.of("src/main/java/FiguredBass.java");
    private static final Pattern METHOD =
        Pattern.compile("    (?:public|private) (?:static )?(?:[a-z]+(?:\\[\\])? )?(\\w+)\\(.*\\).*\\{");

    private Source() {
    }

    static List<String> lines() throws IOException {
        return Files.readAllLines(FILE);
    }

    /** Without comments, and with the written texts left empty. */
    static List<String> code() throws IOException {
        String text = String.join("\n", lines());
        text = text.replaceAll("\"[^\"\n]*\"", "\"\"");
        text = text.replaceAll("//[^\n]*", "");
        Matcher comment = Pattern.compile("/\\*.*?\\*/", Pattern.DOTALL).matcher(text);
        return List.of(comment.replaceAll("").split("\n"));
    }

    /** The methods and the constructor, each by its name: its lines, the one with its parameters first. */
    static Map<String, List<String>> methods() throws IOException {
        Map<String, List<String>> methods = new LinkedHashMap<>();
        List<String> open = null;
        for (String line : code()) {
            Matcher head = METHOD.matcher(line);
            if (head.matches()) {
                open = new ArrayList<>();
                if (methods.put(head.group(1), open) != null) {
                    throw new IllegalStateException("two methods have the name " + head.group(1));
                }
            }
            if (open != null) {
                open.add(line);
            }
            if (line.equals("    }")) {
                open = null;
            }
        }
        return methods;
    }
}
