import java.io.IOException;
import java.nio.file.Files;
import java.nio.file.Path;
import java.util.List;
import java.util.TreeSet;
import java.util.regex.MatchResult;
import java.util.regex.Pattern;
import java.util.stream.Stream;

/** README.md: its examples answer as it says; it has the document's words for the calls and refusals, and each test. */
public final class ReadmeTest {
    private final Check check = new Check();
    private final String page;
    private final String document;

    private ReadmeTest() throws IOException {
        page = Files.readString(Path.of("README.md"));
        document = Files.readString(Path.of("../shared/DOC.md"));
    }

    public static void main(String[] args) throws IOException {
        ReadmeTest test = new ReadmeTest();
        test.examples();
        test.calls();
        test.quotes();
        test.constants();
        test.tests();
        test.check.end();
    }

    private static List<MatchResult> found(String pattern, String text) {
        return Pattern.compile(pattern, Pattern.MULTILINE).matcher(text).results().toList();
    }

    /** All examples together are one run. */
    private void examples() {
        VerandaTalk x = null;
        TreeSet<String> called = new TreeSet<>();
        int lines = 0;
        for (MatchResult block : found("^```java\n((?:.*\n)*?)```$", page)) {
            for (String line : block.group(1).split("\n")) {
                lines++;
                if (line.equals("VerandaTalk x = new VerandaTalk();")) {
                    x = new VerandaTalk();
                } else if (line.startsWith("for (char sign : \"")) {
                    Check.feed(x, line.substring(line.indexOf('"') + 1, line.lastIndexOf('"')));
                    called.add("feed");
                } else if (!line.equals("    x.feed(sign);") && !line.equals("}")) {
                    Row row = new Row(rowOf(line));
                    check.same("README: " + line, row.call(x), row.due());
                    called.add(line.substring(2, line.indexOf('(')));
                }
            }
        }
        check.same("lines of examples", lines > 50 ? 1 : 0, 1);
        for (MatchResult call : found("^    public (?:int|long) (\\w+)\\(", document)) {
            check.same("README has an example of " + call.group(1), called.contains(call.group(1)) ? 1 : 0, 1);
        }
    }

    /** "x.talk(2);  // 4: .." as a row: "talk 2 = 4". */
    private static String rowOf(String line) {
        MatchResult call = found("^x\\.(\\w+)\\((.*)\\); +// (-?\\d+)(: .*)?$", line).stream().findFirst().orElseThrow(
            () -> new IllegalArgumentException("README has no example like this: " + line));
        String arguments = call.group(2).replace(", ", " ");
        if (arguments.matches("'.'")) {
            arguments = Integer.toString(arguments.charAt(1));
        }
        return (call.group(1) + " " + arguments).trim() + " = " + call.group(3);
    }

    private void calls() {
        int promises = 0;
        for (MatchResult promise : found("^## Promise \\d+: .*\n\n(`.*`: .*)$", document)) {
            promises++;
            check.same("README has " + promise.group(1), found("^- " + Pattern.quote(promise.group(1)) + "$", page).size(), 1);
        }
        check.same("promises", promises, 31);
        check.same("calls in README", found("^- `[\\w ]+\\(.*\\)`: ", page).size(), 31);
    }

    /** What README quotes stands in the document, and so do all that it has to quote. */
    private void quotes() {
        String words = document.replaceAll("\\s+", " ");
        TreeSet<String> quoted = new TreeSet<>();
        for (MatchResult quote : found("(?:^> .*\n)+", page)) {
            String text = quote.group().replaceAll("(?m)^> ", "").replaceAll("\\s+", " ").trim();
            check.same("the document has \"" + text + "\"", words.contains(text) ? 1 : 0, 1);
            quoted.add(text);
        }
        for (String begin : new String[] {"==== 1 MATTERS", "  A STATION is", "  SUM of one", "  An EVENING goes",
            "==== 3 REFUSALS"}) {
            String whole = found("^" + begin + ".*$", document).get(0).group().replaceAll("^(==== \\d|  )", "").trim();
            check.same("README quotes all of" + begin, quoted.contains(whole) ? 1 : 0, 1);
        }
    }

    private void constants() {
        String[] names = {"NONE", "BAD", "STATE", "FULL"};
        long[] numbers = {VerandaTalk.NONE, VerandaTalk.BAD, VerandaTalk.STATE, VerandaTalk.FULL};
        for (int i = 0; i < names.length; i++) {
            String row = "| `" + names[i] + "` | " + numbers[i] + " |";
            check.same("README has " + row, page.contains(row) ? 1 : 0, 1);
        }
        check.same("README has NO", page.contains("| `NO` | `Long.MIN_VALUE` | There is no such number. |") ? 1 : 0, 1);
    }

    private void tests() throws IOException {
        TreeSet<String> there = new TreeSet<>();
        try (Stream<Path> files = Files.list(Path.of("src/test/java"))) {
            files.map(file -> file.getFileName().toString()).filter(name -> name.endsWith("Test.java"))
                .forEach(name -> there.add(name.substring(0, name.length() - 5)));
        }
        TreeSet<String> told = new TreeSet<>();
        for (MatchResult test : found("^- `(\\w+Test)`: ", page)) {
            told.add(test.group(1));
        }
        check.same("README tells " + told + ", there are " + there, told.equals(there) ? 1 : 0, 1);
    }
}
