import java.util.Map;
import java.util.TreeMap;
import java.util.regex.Matcher;
import java.util.regex.Pattern;

/** A section of the document, and which of its words a test has quoted. */
final class Section {
    static final int TERMS = 0;
    static final int PROMISES = 47;

    private final String text;
    private final boolean[] told;

    private Section(String text) {
        this.text = text.replaceAll("\\s+", " ").trim();
        told = new boolean[this.text.length()];
    }

    /** By the promise's number; of its section the head and the call's form are left out. */
    static Map<Integer, Section> all(String document) {
        Map<Integer, Section> all = new TreeMap<>();
        String terms = first("(?s)\n## Terms\n(.*?)\nAhead of the calls", document);
        all.put(TERMS, new Section(terms.replace("```text", "").replace("```", "").replaceAll("(?m)^\\d\\. ", "")));
        for (int p = 1; p <= PROMISES; p++) {
            String head = "(?s)\n## Promise " + p + ": [^\n]*\n+`[^`]*`: ";
            all.put(p, new Section(first(head + "(.*?)\n+## ", document)));
        }
        return all;
    }

    private static String first(String pattern, String document) {
        Matcher m = Pattern.compile(pattern).matcher(document);
        return m.find() ? m.group(1) : "NOT FOUND IN THE DOCUMENT";
    }

    /** Whether these words stand here, and once only, so that it is plain which are meant. */
    boolean quote(String words) {
        int at = text.indexOf(words);
        if (at < 0 || words.isEmpty() || text.indexOf(words, at + 1) >= 0) {
            return false;
        }
        for (int i = 0; i < words.length(); i++) {
            told[at + i] = true;
        }
        return true;
    }

    /** The words that no test has quoted; signs between them don't matter. */
    String untold() {
        StringBuilder left = new StringBuilder();
        for (int i = 0; i < told.length; i++) {
            boolean isSign = !Character.isLetterOrDigit(text.charAt(i));
            left.append(told[i] ? '|' : isSign ? ' ' : text.charAt(i));
        }
        return left.toString().replaceAll("[| ]*\\|[| ]*", " | ").replaceAll("^[| ]+|[| ]+$", "");
    }
}
