import java.io.IOException;
import java.nio.file.Files;
import java.nio.file.Path;
import java.util.List;
import java.util.stream.Collectors;
import java.util.stream.Stream;

/** Makes every run of calls under src/test/runs and prints each call whose answer is not the one written behind it. */
public final class RunsTest {
    private static int right = 0;
    private static int wrong = 0;

    public static void main(String[] args) throws IOException {
        List<Path> files;
        try (Stream<Path> found = Files.list(Path.of("src/test/runs"))) {
            files = found.filter(p -> p.toString().endsWith(".txt")).sorted().collect(Collectors.toList());
        }
        for (Path file : files) {
            makeRuns(file);
        }
        System.out.println(right + " answers as due, " + wrong + " not, in " + files.size() + " files");
        if (wrong != 0 || right == 0) {
            System.exit(1);
        }
    }

    private static void makeRuns(Path file) throws IOException {
        Calls calls = new Calls();
        int number = 0;
        for (String line : Files.readAllLines(file)) {
            number++;
            String row = line.strip();
            if (row.equals("new")) {
                calls.renew();
            } else if (!row.isEmpty() && row.charAt(0) != '#') {
                makeRow(calls, row, file.getFileName() + ":" + number);
            }
        }
    }

    private static void makeRow(Calls calls, String row, String where) {
        String mistake = calls.mistakeIn(row);
        if (mistake.isEmpty()) {
            right++;
        } else {
            wrong++;
            System.out.println(where + ": " + mistake);
        }
    }
}
