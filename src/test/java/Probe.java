import java.util.ArrayList;
import java.util.List;

/** All that an object answers, call by call: two that answer alike here are alike. */
final class Probe {
    private final VerandaTalk x;
    /** Each call with its answer. */
    private final List<String> answers = new ArrayList<>();

    private Probe(VerandaTalk x) {
        this.x = x;
    }

    /** It changes the object: THE TAPE, ROWS and THE IMAGE show by what is done with them alone. */
    static List<String> of(VerandaTalk x) {
        Probe probe = new Probe(x);
        probe.askAll();
        probe.useUp();
        if (probe.ask("undo") >= 0) {
            probe.askAll();
            probe.useUp();
        }
        return probe.answers;
    }

    private long ask(String call) {
        long answer = new Row(call).call(x);
        answers.add(call + " = " + answer);
        return answer;
    }

    private void askAll() {
        long[] counts = new long[7];
        for (int what = 0; what <= 6; what++) {
            counts[what] = ask("count " + what);
        }
        for (int what = 0; what <= 8; what++) {
            ask("told " + what);
        }
        for (int p = 0; p < counts[0]; p++) {
            for (int what = 0; what <= 8; what++) {
                ask("of " + p + " " + what);
            }
            ask("net " + p);
            ask("when " + p);
            ask("firm " + p + " 0");
            ask("on 3 1" + p);
        }
        for (int i = 0; i < counts[6]; i++) {
            ask("trace " + i);
        }
        for (String call : new String[] {"on 20 0", "on 20 1", "agenda 2 0", "agenda 2 10", "agenda 2 11",
            "dues 0", "dues 1", "mean 0", "mean 1", "done 0", "done 1", "looked"}) {
            ask(call);
        }
    }

    private void useUp() {
        ask("station");
        ask("told 1");
        ask("told 2");
        long size = ask("count 0");
        for (int p = 0; p < size; p++) {
            ask("of " + p + " 7");
            boolean hasRow = ask("of " + p + " 0") == 6;
            for (int k = 0; k < 4 && hasRow; k++) {
                ask("row " + p + " " + k + " 0");
            }
        }
    }
}
