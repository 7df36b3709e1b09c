import java.io.IOException;
import java.nio.file.Files;
import java.nio.file.Path;
import java.util.ArrayList;
import java.util.List;
import java.util.TreeSet;

/** Runs tests that are told as rows of calls, each by the sentence of the document that it is of. */
final class Edges {
    private static final int CALLS_MOST = 512, PROMISES = 31;

    private final Check check;
    private final String document;
    private final TreeSet<Integer> promises = new TreeSet<>();
    private int many = 0;

    Edges(Check check) throws IOException {
        this.check = check;
        document = Files.readString(Path.of("../shared/DOC.md")).replaceAll("\\s+", " ");
    }

    /** The sentence stands in the document, once; the rows are called on a new object. */
    void edge(String sentence, String... rows) {
        int at = document.indexOf(sentence);
        check.same("places of \"" + sentence + "\"", at < 0 ? 0 : at == document.lastIndexOf(sentence) ? 1 : 2, 1);
        promises.add(promiseAt(at));
        many++;
        VerandaTalk x = new VerandaTalk();
        List<Row> before = new ArrayList<>();
        int calls = 0;
        for (String text : rows) {
            Row row = new Row(text);
            for (int time = 0; time < row.times; time++) {
                long answer = row.call(x);
                if (row.isLookedAt()) {
                    check.same(sentence + ": " + row.text, answer, row.due());
                }
            }
            calls += row.calls();
            if (row.isStill) {
                leavesAll(sentence, before, row);
            } else {
                before.add(row);
            }
        }
        check.same(sentence + ": no more than 512 calls", calls <= CALLS_MOST ? 1 : 0, 1);
    }

    /** What an object answers behind the call, beside what one answers that was not asked it. */
    private void leavesAll(String sentence, List<Row> before, Row row) {
        VerandaTalk asked = after(before);
        VerandaTalk other = after(before);
        row.call(asked);
        List<String> got = Probe.of(asked);
        List<String> want = Probe.of(other);
        int calls = 1 + want.size();
        for (Row one : before) {
            calls += one.calls();
        }
        check.same(sentence + ": probed by no more than 512 calls", calls <= CALLS_MOST ? 1 : 0, 1);
        String first = "all";
        for (int i = 0; i < Math.max(got.size(), want.size()) && first.equals("all"); i++) {
            String left = i < got.size() ? got.get(i) : "nothing";
            String right = i < want.size() ? want.get(i) : "nothing";
            first = left.equals(right) ? first : left + ", not " + right;
        }
        check.same(sentence + ": " + row.text + " leaves " + first, first.equals("all") ? 1 : 0, 1);
    }

    static String[] joined(String[]... parts) {
        List<String> rows = new ArrayList<>();
        for (String[] part : parts) {
            rows.addAll(List.of(part));
        }
        return rows.toArray(new String[0]);
    }

    private static VerandaTalk after(List<Row> rows) {
        VerandaTalk x = new VerandaTalk();
        for (Row row : rows) {
            for (int time = 0; time < row.times; time++) {
                row.call(x);
            }
        }
        return x;
    }

    /** The number of the promise that stands there, or 0. */
    private int promiseAt(int at) {
        int promise = 0;
        while (promise < PROMISES && document.indexOf("## Promise " + (promise + 1) + ":") <= at) {
            promise++;
        }
        return promise;
    }

    void end() {
        for (int promise = 1; promise <= PROMISES; promise++) {
            check.same("promise " + promise + " has an edge", promises.contains(promise) ? 1 : 0, 1);
        }
        System.out.println(many + " edges");
        check.end();
    }
}
