import java.io.IOException;
import java.nio.file.Files;
import java.nio.file.Path;
import java.util.ArrayList;
import java.util.List;

/**
 * The document's sentences, each with a test of its own. A sentence must stand in the document word for word, and
 * no word of the sections that a test class takes upon itself may be left without a test.
 */
final class Sentences {
    /** The number of the section 'Terms'; the others have their promise's number. */
    static final int TERMS = 0;

    private final String document;
    private final boolean[] tested;
    private final List<int[]> taken = new ArrayList<>();

    /** As .ci/run gives them: the source's path, then the document's. */
    Sentences(String[] args) throws IOException {
        if (args.length < 2) {
            throw new IllegalArgumentException("the paths of the source and of the document are due");
        }
        String text = Files.readString(Path.of(args[1]));
        document = text.replaceAll("```(text)?", " ").replaceAll("\\s+", " ");
        tested = new boolean[document.length()];
    }

    void takePromises(int... promises) {
        for (int promise : promises) {
            taken.add(section(promise));
        }
    }

    /** Of 'Terms': from some words up to others. */
    void takeTerms(String from, String upTo) {
        int[] terms = section(TERMS);
        int begin = document.indexOf(from, terms[0]);
        int end = begin < 0 ? -1 : document.indexOf(upTo, begin);
        if (end < 0 || begin >= terms[1]) {
            Check.fail("the document has no terms from '" + from + "' up to '" + upTo + "'");
            return;
        }
        taken.add(new int[] {begin, Math.min(end, terms[1])});
    }

    void holds(int promise, String sentence, Runnable test) {
        int[] section = section(promise);
        int at = document.indexOf(sentence, section[0]);
        int again = document.indexOf(sentence, at + 1);
        if (at < 0 || at + sentence.length() > section[1] || again >= 0 && again < section[1]) {
            Check.fail("the document does not say once in section " + promise + ": " + sentence);
            return;
        }
        for (int k = at; k < at + sentence.length(); k++) {
            tested[k] = true;
        }
        run((promise == TERMS ? "terms" : "promise " + promise) + ", '" + sentence + "'", test);
    }

    private static void run(String what, Runnable test) {
        int before = Check.failures();
        Check.showAgain();
        try {
            test.run();
        } catch (RuntimeException thrown) {
            Check.fail("a call threw " + thrown);
        }
        Check.showAgain();
        if (Check.failures() > before) {
            Check.fail("broken: " + what);
        }
    }

    /** Where a section's words begin, behind its heading and the method's face, and where they end. */
    private int[] section(int promise) {
        String heading = promise == TERMS ? "## Terms " : "## Promise " + promise + ": ";
        int head = document.indexOf(heading);
        int begin = promise == TERMS ? head + heading.length() : document.indexOf("`: ", head) + 3;
        int end = head < 0 ? -1 : document.indexOf(" ## ", begin);
        if (end < 0) {
            throw new IllegalStateException("the document has no section " + heading);
        }
        return new int[] {begin, end};
    }

    void end() {
        for (int[] part : taken) {
            failUntested(part[0], part[1]);
        }
        Check.end();
    }

    private void failUntested(int from, int to) {
        int at = from;
        while (at < to) {
            int begin = at;
            while (at < to && !tested[at]) {
                at++;
            }
            String left = document.substring(begin, at);
            if (left.matches(".*\\w.*")) {
                Check.fail("no test for: " + left.trim());
            }
            at++;
        }
    }
}
