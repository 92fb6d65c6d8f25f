import java.io.IOException;
import java.nio.file.Files;
import java.nio.file.Path;
import java.util.ArrayList;
import java.util.List;
import java.util.regex.Matcher;
import java.util.regex.Pattern;

/** README.md shows every call of the document's face as it stands there, and its example answers what it says. */
public final class ReadmeTest {
    private static final Path README = Path.of("README.md");
    private static final Path DOCUMENT = Path.of("..", "shared", "DOC.md");
    private static final Path OWN_SOURCE = Path.of("src", "test", "java", "ReadmeTest.java");

    private final List<Long> answers = new ArrayList<>();

    private ReadmeTest() {
    }

    public static void main(String[] args) throws IOException {
        String readme = Files.readString(README);
        face(readme);
        words(readme);
        example(readme);
        Check.end("ReadmeTest");
    }

    private static String firstBlock(String text) {
        int start = text.indexOf("```java\n");
        int end = text.indexOf("```", start + 3);
        Check.yes("there is a block of code", start >= 0 && end > start);
        return text.substring(start + 8, end);
    }

    private static void face(String readme) throws IOException {
        Matcher call = Pattern.compile("public ((?:int|boolean) .*);").matcher(firstBlock(Files.readString(DOCUMENT)));
        int calls = 0;
        while (call.find()) {
            calls++;
            Check.yes("README tells " + call.group(1), readme.contains("| `" + call.group(1) + "` |"));
        }
        Check.same("calls of the face", calls, 34);
    }

    private static void words(String readme) {
        for (String word : new String[] {"new FoundOffice()", "**NONE** is -1", "512 calls", "NoSuchElementException",
            ".ci/run"}) {
            Check.yes("README tells of " + word, readme.contains(word));
        }
        Check.same("NONE", FoundOffice.NONE, -1);
    }

    /** What README shows is what run() calls, line by line; each comment there begins with the answer. */
    private static void example(String readme) throws IOException {
        List<String> shown = new ArrayList<>();
        List<Long> told = new ArrayList<>();
        for (String line : firstBlock(readme).split("\n")) {
            String[] parts = line.split("//");
            shown.add(parts[0].trim());
            if (parts.length > 1) {
                told.add(numberOf(parts[1].trim().split("[ ,]")[0]));
            }
        }
        Check.yes("README's example is the one that is run: " + shown, shown.equals(linesOfRun()));
        ReadmeTest test = new ReadmeTest();
        test.run();
        Check.yes("README tells " + told + ", answered is " + test.answers, told.equals(test.answers));
    }

    private static long numberOf(String word) {
        return word.equals("true") ? 1 : word.equals("false") ? 0 : Long.parseLong(word);
    }

    /** The lines of run(), with what only keeps their answers taken away. */
    private static List<String> linesOfRun() throws IOException {
        List<String> lines = new ArrayList<>();
        boolean inside = false;
        for (String line : Files.readAllLines(OWN_SOURCE)) {
            if (line.equals("    }")) {
                inside = false;
            }
            if (inside) {
                lines.add(line.trim().replaceFirst("keep\\((.*)\\);$", "$1;"));
            }
            if (line.equals("    private void run() {")) {
                inside = true;
            }
        }
        return lines;
    }

    private void run() {
        FoundOffice office = new FoundOffice();
        int colour = keep(office.question(0, 5, 10));
        int tag = keep(office.question(0, 40, 1));
        int bag = keep(office.thing(1, 17, true, FoundOffice.NONE));
        keep(office.mark(false, bag, colour, 2));
        keep(office.mark(false, bag, tag, 33));
        int report = keep(office.report(101));
        keep(office.mark(true, report, colour, 2));
        keep(office.best(report));
        int claim = keep(office.claim(report, bag));
        keep(office.prove(claim, tag, 33));
        keep(office.give(claim));
        keep(office.place(bag, 5));
        keep(office.best(report));
    }

    private int keep(int answer) {
        answers.add((long) answer);
        return answer;
    }

    private void keep(boolean answer) {
        answers.add(answer ? 1L : 0L);
    }
}
