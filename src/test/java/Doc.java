import java.io.IOException;
import java.nio.charset.StandardCharsets;
import java.nio.file.Files;
import java.nio.file.Path;

/** The document, so that a test of an edge can quote the sentence that it holds to. */
final class Doc {
    private static final String ALL = read();

    private Doc() {
    }

    private static String read() {
        try {
            return Files.readString(Path.of("../shared/DOC.md"), StandardCharsets.UTF_8).replaceAll("\\s+", " ");
        } catch (IOException missing) {
            return "";
        }
    }

    /** Whether a part ("What it is", "The public face", "Terms", "Terms 1", "Promise 5") has the words. */
    static boolean has(String part, String words) {
        return part(part).contains(words);
    }

    private static String part(String name) {
        if (name.startsWith("Terms ")) {
            String number = name.substring(6);
            int from = ALL.indexOf("==== " + number + ".");
            return from < 0 ? "" : upTo(from, " ==== ", " ## ");
        }
        int from = ALL.indexOf("## " + name + (name.startsWith("Promise ") ? ":" : " "));
        return from < 0 ? "" : upTo(from, " ## ", " ## ");
    }

    private static String upTo(int from, String end, String otherEnd) {
        int behind = ALL.length();
        for (String mark : new String[] {end, otherEnd}) {
            int at = ALL.indexOf(mark, from + 3);
            behind = at < 0 ? behind : Math.min(behind, at);
        }
        return ALL.substring(from, behind);
    }
}
