import java.io.IOException;
import java.nio.file.Files;
import java.nio.file.Path;
import java.util.ArrayList;
import java.util.BitSet;
import java.util.LinkedHashMap;
import java.util.List;
import java.util.Map;

/** The document by its heads, and which of its words a test has quoted. */
final class Document {
    private static final Path WHERE = Path.of("../shared/DOC.md");
    private final Map<String, String> text = new LinkedHashMap<>();
    private final Map<String, BitSet> quoted = new LinkedHashMap<>();

    Document() throws IOException {
        // the answers can be looked at without it, but not whether a test stands for each sentence
        if (!Files.isReadable(WHERE)) {
            System.out.println("without " + WHERE + ": the quotes aren't looked up");
            return;
        }
        String head = "";
        StringBuilder body = new StringBuilder();
        for (String line : Files.readAllLines(WHERE)) {
            if (line.startsWith("## ")) {
                keep(head, body);
                head = line.substring(3).replaceAll("^(Promise \\d+):.*", "$1");
                body.setLength(0);
            } else if (!line.startsWith("```")) {
                body.append(line).append(' ');
            }
        }
        keep(head, body);
    }

    private void keep(String head, StringBuilder body) {
        // a promise begins with its call, a part with its mark: neither is a sentence
        String plain = body.toString().replaceAll("\\s+", " ").replaceAll("^ `[^`]*`:", "").replaceAll("==== [IV]+\\.", " ");
        text.put(head, plain);
        quoted.put(head, new BitSet());
    }

    /** Whether the words stand under the head, once. */
    boolean quote(String head, String words) {
        if (text.isEmpty()) return true;
        String body = text.getOrDefault(head, "");
        int at = body.indexOf(words);
        if (at < 0 || body.indexOf(words, at + 1) >= 0) return false;
        quoted.get(head).set(at, at + words.length());
        return true;
    }

    /** What stands under "Terms" and the promises, and no test has quoted. */
    List<String> unquoted() {
        List<String> all = new ArrayList<>();
        for (String head : text.keySet()) {
            if (!head.equals("Terms") && !head.startsWith("Promise ")) continue;
            StringBuilder rest = new StringBuilder();
            for (int i = 0; i < text.get(head).length(); i++) rest.append(quoted.get(head).get(i) ? '\n' : text.get(head).charAt(i));
            for (String part : rest.toString().split("\n+")) if (part.matches(".*[A-Za-z0-9].*")) all.add(head + ": " + part.strip());
        }
        return all;
    }
}
