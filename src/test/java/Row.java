/**
 * A call told as text: "talk 0 = 2" asks talk(0), of which 2 is due. Without " = " the answer is not
 * looked at. "5 times pass 60" is called so often. "still ..": the call leaves all as it was.
 * "text due 9 = 0" feeds the text and then asks station(); "tape due" feeds alone.
 */
final class Row {
    final String text;
    final boolean isStill;
    final int times;
    private final String name;
    /** What stands behind the name. */
    private final String rest;
    private final String[] arguments;
    private final String due;

    Row(String text) {
        this.text = text;
        int dueAt = text.lastIndexOf(" = ");
        due = dueAt < 0 ? null : text.substring(dueAt + 3);
        String call = dueAt < 0 ? text : text.substring(0, dueAt);
        isStill = call.startsWith("still ");
        call = isStill ? call.substring(6) : call;
        int timesAt = call.indexOf(" times ");
        times = timesAt < 0 ? 1 : Integer.parseInt(call.substring(0, timesAt));
        call = timesAt < 0 ? call : call.substring(timesAt + 7);
        int nameEnd = call.indexOf(' ');
        name = nameEnd < 0 ? call : call.substring(0, nameEnd);
        rest = nameEnd < 0 ? "" : call.substring(nameEnd + 1);
        arguments = rest.split(" ");
    }

    boolean isLookedAt() {
        return due != null;
    }

    long due() {
        return due == null ? 0 : numberOf(due);
    }

    /** How many calls of the face it makes. */
    int calls() {
        int once = name.equals("text") ? rest.length() + 1 : name.equals("tape") ? rest.length() : 1;
        return times * once;
    }

    /** The answer of one time. */
    long call(VerandaTalk x) {
        return switch (name) {
            case "text" -> Check.station(x, rest);
            case "tape" -> tape(x);
            case "feed", "station", "matter", "of", "row", "tie", "shelve", "reopen", "told", "talk", "pass" ->
                callMatters(x);
            case "on", "when", "agenda", "net", "see", "dues", "firm", "odds", "mean" -> callAsked(x);
            default -> callRest(x);
        };
    }

    private long callMatters(VerandaTalk x) {
        return switch (name) {
            case "feed" -> x.feed(number(0));
            case "station" -> x.station();
            case "matter" -> x.matter(number(0), number(1));
            case "of" -> x.of(number(0), number(1));
            case "row" -> x.row(number(0), number(1), number(2));
            case "tie" -> x.tie(number(0), number(1), is(2));
            case "shelve" -> x.shelve(number(0), is(1));
            case "reopen" -> x.reopen(number(0));
            case "told" -> x.told(number(0));
            case "talk" -> x.talk(number(0));
            default -> x.pass(number(0));
        };
    }

    private long callAsked(VerandaTalk x) {
        return switch (name) {
            case "on" -> x.on(number(0), number(1));
            case "when" -> x.when(number(0));
            case "agenda" -> x.agenda(number(0), number(1));
            case "net" -> x.net(number(0));
            case "see" -> x.see(number(0), number(1), is(2));
            case "dues" -> x.dues(number(0));
            case "firm" -> x.firm(number(0), number(1));
            case "odds" -> x.odds(number(0), number(1), number(2));
            default -> x.mean(number(0));
        };
    }

    private long callRest(VerandaTalk x) {
        return switch (name) {
            case "plan" -> x.plan(number(0), number(1));
            case "done" -> x.done(number(0));
            case "book" -> x.book(number(0), number(1));
            case "looked" -> x.looked();
            case "act" -> x.act(number(0), number(1), number(2));
            case "trace" -> x.trace(number(0));
            case "as" -> x.as(number(0), number(1));
            case "image" -> x.image();
            case "undo" -> x.undo();
            case "count" -> x.count(number(0));
            default -> throw new IllegalArgumentException("no such call: " + text);
        };
    }

    private long tape(VerandaTalk x) {
        long answer = 0;
        for (char sign : rest.toCharArray()) {
            answer = x.feed(sign);
        }
        return answer;
    }

    private int number(int i) {
        return (int) numberOf(arguments[i]);
    }

    private boolean is(int i) {
        return switch (arguments[i]) {
            case "true" -> true;
            case "false" -> false;
            default -> throw new IllegalArgumentException("neither true nor false: " + text);
        };
    }

    private static long numberOf(String word) {
        return switch (word) {
            case "NONE" -> -1;
            case "BAD" -> -2;
            case "STATE" -> -3;
            case "FULL" -> -4;
            case "NO" -> Long.MIN_VALUE;
            case "LEAST" -> Integer.MIN_VALUE;
            case "MOST" -> Integer.MAX_VALUE;
            default -> Long.parseLong(word);
        };
    }
}
