import java.io.IOException;
import java.nio.charset.StandardCharsets;
import java.nio.file.Files;
import java.nio.file.Path;
import java.util.ArrayList;
import java.util.List;

/**
 * Tests of their own for the sentences of the document that name an edge. Each test bears its
 * sentence, and the sentences are looked up in the document, so that none is quoted wrongly and
 * none that limits a parameter or names an exception is left out.
 */
final class Edges {
    private record Quote(String place, String sentence) {
    }

    private static final Path DOCUMENT = Path.of("..", "shared", "DOC.md");
    private static final List<Quote> QUOTES = new ArrayList<>();

    private Edges() {
    }

    /** The place is a promise's number or a heading. */
    static void of(String place, String sentence, Runnable test) {
        QUOTES.add(new Quote(place, sentence));
        Due.promise(place + " \"" + sentence + "\"");
        int before = Due.asked();
        try {
            test.run();
        } catch (RuntimeException e) {
            Due.is("no exception", e.toString() + " at " + e.getStackTrace()[0]);
        }
        Due.is(true, Due.asked() > before);
    }

    /** Numbers outside a range: next to it, far away, and such that are inside if their high bits are lost. */
    static int[] beyond(int least, int most) {
        return new int[] {least - 1, most + 1, -most - 1, least - 2, most + 2, least + 256, most - 256, least + 65536,
            most - 65536, Integer.MIN_VALUE, Integer.MIN_VALUE + most, Integer.MAX_VALUE, Integer.MAX_VALUE - most};
    }

    static void compareWithDocument() throws IOException {
        List<String> lines = Files.readAllLines(DOCUMENT, StandardCharsets.UTF_8);
        for (Quote quote : QUOTES) {
            Due.promise(quote.place + " \"" + quote.sentence + "\" stands in the document");
            Due.is(true, section(lines, quote.place).contains(quote.sentence));
        }
        for (int number = 1; number <= 54; number++) {
            for (String line : section(lines, String.valueOf(number)).split("\n")) {
                if (line.startsWith("Throws ") || line.startsWith("- ")) {
                    Due.promise(number + " \"" + line + "\" has a test");
                    Due.is(true, isQuoted(String.valueOf(number), line));
                }
            }
        }
    }

    private static boolean isQuoted(String place, String line) {
        for (Quote quote : QUOTES) {
            if (quote.place.equals(place) && quote.sentence.equals(line)) {
                return true;
            }
        }
        return false;
    }

    private static String section(List<String> lines, String place) {
        StringBuilder section = new StringBuilder();
        boolean inside = false;
        for (String line : lines) {
            if (line.startsWith("## ")) {
                inside = line.equals("## " + place) || line.startsWith("## Promise " + place + ":");
            }
            if (inside) {
                section.append(line).append('\n');
            }
        }
        return section.toString();
    }
}
