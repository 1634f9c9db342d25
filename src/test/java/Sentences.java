import java.io.IOException;
import java.nio.file.Files;
import java.nio.file.Path;
import java.util.ArrayList;
import java.util.HashSet;
import java.util.List;
import java.util.Set;
import java.util.regex.Matcher;
import java.util.regex.Pattern;

/**
 * Ties tests to the sentences of the document: each test quotes the words that it stands for. A quotation that the
 * document does not hold is wrong, and so is a sentence that names a boundary case which no test quotes.
 */
abstract class Sentences {
    private static final Path DOCUMENT = Path.of("../shared/DOC.md");
    /** The words by which a boundary case is told. */
    private static final Pattern BOUNDARY = Pattern.compile("\\d|\\b(NONE|Throws|at least|at most|first|last|empty|no|not"
            + "|none|nothing|only|also|too|if|If|same|always|several|until|up to|maximal|different|early|already|all|both"
            + "|discards?|discarded|keeps|previous|[Oo]therwise|unless|latest|smallest|smaller|greatest|ascending|fewer"
            + "|several|other|another|again|once|Returns whether|instead|longer|separated|order)\\b");

    /** A part of the document that ends with a full stop, a semicolon or a colon. */
    private static final class Unit {
        final String heading;
        final String text;
        String unquoted;

        Unit(String heading, String text) {
            this.heading = heading;
            this.text = text;
            this.unquoted = text;
        }
    }

    private static final List<Unit> UNITS = new ArrayList<>();
    private static final Set<String> QUOTED = new HashSet<>();
    private static String heading = "";

    static void readDocument() throws IOException {
        String part = "";
        boolean isCode = false;
        Pattern section = Pattern.compile("(\\d)\\. .*");
        for (String line : Files.readAllLines(DOCUMENT)) {
            Matcher numbered = section.matcher(line);
            if (line.startsWith("## ")) {
                part = line.substring(3).replaceAll(":.*", "");
            } else if (line.startsWith("```")) {
                isCode = !isCode;
            } else if (part.startsWith("Terms") && numbered.matches()) {
                part = "Terms " + numbered.group(1);
            } else if (part.matches("(Terms|Promise) \\d+")) {
                for (String text : isCode ? new String[] {line} : line.split("(?<=[.:;]) ")) {
                    UNITS.add(new Unit(part, text.trim()));
                }
            }
        }
    }

    /** The sentences that follow stand under this heading. */
    static void under(String newHeading) {
        heading = newHeading;
    }

    /** The test holds if what the quoted words say holds; it has to check something. */
    static void says(String quotation, Runnable test) {
        int wrongBefore = Check.wrongSoFar();
        int checkedBefore = Check.checkedSoFar();
        Check.holds(0, heading + " says: " + quotation, true, () -> quote(quotation));
        Check.holds(0, heading + " is quoted once only: " + quotation, true, () -> QUOTED.add(heading + quotation));
        try {
            test.run();
        } catch (RuntimeException e) {
            Check.same("the test", "no exception", e.toString());
        }
        if (Check.checkedSoFar() <= checkedBefore + 2) {
            Check.same("the test", "some answers", "none");
        }
        if (Check.wrongSoFar() > wrongBefore) {
            System.out.println("   so this does not hold: " + heading + ": " + quotation);
        }
    }

    private static boolean quote(String quotation) {
        boolean found = false;
        for (Unit unit : UNITS) {
            if (unit.heading.equals(heading) && unit.text.contains(quotation)) {
                unit.unquoted = unit.unquoted.replace(quotation, " ");
                found = true;
            }
        }
        return found;
    }

    /** What of the document's boundary cases no test quotes. */
    static void checkThatAllAreQuoted() {
        for (Unit unit : UNITS) {
            boolean isSignature = unit.text.startsWith("`") && unit.text.contains("(");
            if (!isSignature && BOUNDARY.matcher(unit.unquoted).find()) {
                Check.same("a sentence under " + unit.heading, "a test", "no test: " + unit.unquoted);
            }
        }
        Check.holds(0, "sentences are quoted", true, () -> QUOTED.size() > 100);
    }

    // ---- shorter names for what the sentences' tests check ----

    static void is(String what, double want, Check.Call call) {
        Check.is(promise(), what, want, call);
    }

    static void holds(String what, boolean want, Check.Question question) {
        Check.holds(promise(), what, want, question);
    }

    static void fails(String what, Class<? extends RuntimeException> want, Check.Call call) {
        Check.fails(promise(), what, want, call);
    }

    static void same(String what, String want, String got) {
        Check.same(what, want, got);
    }

    static void refused(String text, int code, int position) {
        Check.refused(text, code, position);
    }

    static void accepted(String text) {
        Check.accepted(text);
    }

    static ParcelRailway loaded(String text) {
        return Check.loaded(text);
    }

    static final Class<IndexOutOfBoundsException> NO_INDEX = IndexOutOfBoundsException.class;
    static final Class<IllegalArgumentException> BAD_ARGUMENT = IllegalArgumentException.class;
    static final Class<IllegalStateException> BAD_STATE = IllegalStateException.class;
    static final Class<java.util.NoSuchElementException> NO_ELEMENT = java.util.NoSuchElementException.class;

    private static int promise() {
        return heading.startsWith("Promise ") ? Integer.parseInt(heading.substring(8)) : 0;
    }
}
