import java.io.IOException;
import java.nio.file.Files;
import java.nio.file.Path;
import java.util.ArrayList;
import java.util.List;
import java.util.stream.Collectors;
import java.util.stream.Stream;

/**
 * Makes the runs under src/test/sentences, each of which begins with the
 * sentences of the document that it holds the class against, and looks whether
 * every word of the document's terms and promises is in such a sentence.
 */
public final class SentencesTest {
    private static final String QUOTE = ">";

    private final String document;
    /** The characters of the document that some run quotes. */
    private final boolean[] quoted;
    private final List<String> quotes = new ArrayList<>();
    private int runs = 0;
    private int right = 0;
    private int wrong = 0;

    private SentencesTest(String document) {
        this.document = document;
        this.quoted = new boolean[document.length()];
    }

    public static void main(String[] args) throws IOException {
        SentencesTest test = new SentencesTest(plain(Files.readString(Path.of("../shared/DOC.md"))));
        test.makeAll();
        test.lookForUnquoted();
        System.out.println(test.right + " answers as due, " + test.wrong + " faults, in " + test.runs
                + " runs with their sentences");
        if (test.wrong != 0 || test.right == 0) {
            System.exit(1);
        }
    }

    /** Without the fences, headings and signatures, and on one line. */
    private static String plain(String text) {
        String body = text.substring(0, text.indexOf("## Not promised"));
        return body.lines()
                .filter(line -> !line.startsWith("```") && !line.startsWith("#"))
                .map(line -> line.replaceFirst("^`[^`]*`: ", ""))
                .collect(Collectors.joining(" ")).replaceAll("\\s+", " ");
    }

    private void makeAll() throws IOException {
        List<Path> files;
        try (Stream<Path> found = Files.list(Path.of("src/test/sentences"))) {
            files = found.filter(p -> p.toString().endsWith(".txt")).sorted().collect(Collectors.toList());
        }
        for (Path file : files) {
            makeRuns(file);
        }
    }

    private void makeRuns(Path file) throws IOException {
        Calls calls = new Calls();
        boolean quoting = false;
        int number = 0;
        for (String line : Files.readAllLines(file)) {
            number++;
            String row = line.strip();
            String where = file.getFileName() + ":" + number;
            if (row.startsWith(QUOTE)) {
                if (!quoting) {
                    calls.renew();
                    quotes.clear();
                    runs++;
                }
                quoting = true;
                noteQuote(row.substring(QUOTE.length()).strip(), where);
            } else if (row.equals("new")) {
                calls.renew();
            } else if (!row.isEmpty() && row.charAt(0) != '#') {
                quoting = false;
                makeRow(calls, row, where);
            }
        }
    }

    private void noteQuote(String quote, String where) {
        quotes.add(quote);
        int at = document.indexOf(quote);
        if (at < 0 || document.indexOf(quote, at + 1) >= 0) {
            wrong++;
            System.out.println(where + ": the document doesn't say just once: " + quote);
            return;
        }
        for (int k = 0; k < quote.length(); k++) {
            quoted[at + k] = true;
        }
    }

    private void makeRow(Calls calls, String row, String where) {
        String mistake = calls.mistakeIn(row);
        if (mistake.isEmpty()) {
            right++;
        } else {
            wrong++;
            System.out.println(where + ": " + mistake + ", for it says: " + String.join(" ", quotes));
        }
    }

    private void lookForUnquoted() {
        StringBuilder left = new StringBuilder();
        for (int k = document.indexOf("THE DEVICE has"); k < document.length(); k++) {
            left.append(quoted[k] ? '\n' : document.charAt(k));
        }
        for (String part : left.toString().split("\n+")) {
            if (!part.isBlank()) {
                wrong++;
                System.out.println("no run is for: " + part.strip());
            }
        }
    }
}
