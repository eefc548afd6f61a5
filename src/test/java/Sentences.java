import java.util.Arrays;
import java.util.regex.Matcher;
import java.util.regex.Pattern;

/** Holds each sentence of the document against answers, and tells which of its words no test has held. */
final class Sentences {
    private static final String FIRST_WORDS = "An object is used";
    private static final String BEHIND_LAST = "## Not promised";
    /** What names parts of the document or says how calls are written, but promises nothing. */
    private static final Pattern NO_PROMISE = Pattern.compile(
        "(?m)(?s:```java.*?```)|^##.*$|^`[^`]*`: |```text|```|==== I+\\.");

    private final Check check;
    private final String document;
    private final boolean[] isHeld;
    private String now = "";
    private int askedNow = 1;

    Sentences(Check check, String document) {
        this.check = check;
        this.document = document;
        this.isHeld = new boolean[document.length()];
    }

    /** The answers asked from here on hold these words of the document. */
    void hold(String words) {
        endSentence();
        now = words;
        askedNow = 0;
        int place = document.indexOf(words);
        check.due("places of '" + words + "' in the document", countPlaces(words), 1);
        if (place >= 0) {
            Arrays.fill(isHeld, place, place + words.length(), true);
        }
    }

    void due(String call, long got, long want) {
        askedNow++;
        check.due("'" + now + "': " + call, got, want);
    }

    void due(String call, boolean got, boolean want) {
        due(call, got ? 1 : 0, want ? 1 : 0);
    }

    /** Behind the last sentence: all words of the document must have been held. */
    void close() {
        endSentence();
        Matcher names = NO_PROMISE.matcher(document);
        while (names.find()) {
            Arrays.fill(isHeld, names.start(), names.end(), true);
        }
        int last = document.indexOf(BEHIND_LAST);
        StringBuilder left = new StringBuilder();
        for (int i = document.indexOf(FIRST_WORDS); i >= 0 && i < last; i++) {
            left.append(isHeld[i] || !Character.isLetterOrDigit(document.charAt(i)) ? ' ' : document.charAt(i));
        }
        String words = left.toString().trim().replaceAll(" +", " ");
        check.due("words of the document that no test holds: '" + words + "', so many", words.length(), 0);
    }

    private void endSentence() {
        check.due("answers were asked for '" + now + "'", askedNow > 0, true);
    }

    private int countPlaces(String words) {
        int places = 0;
        for (int at = document.indexOf(words); at >= 0; at = document.indexOf(words, at + 1)) {
            places++;
        }
        return places;
    }
}
