/** Counts what is not as due, and tells it. */
final class Check {
    private int right = 0;
    private int wrong = 0;

    void same(String what, long got, long want) {
        if (got == want) {
            right++;
        } else {
            wrong++;
            System.out.println(what + " answered " + got + ", due is " + want);
        }
    }

    boolean isWrong() {
        return wrong > 0;
    }

    void end() {
        System.out.println(right + " as due, " + wrong + " not");
        if (wrong > 0) {
            System.exit(1);
        }
    }

    /** Feeds a text behind the tape. */
    static void feed(VerandaTalk x, String text) {
        for (int i = 0; i < text.length(); i++) {
            x.feed(text.charAt(i));
        }
    }

    /** What station() answers of a text. */
    static int station(VerandaTalk x, String text) {
        feed(x, text);
        return x.station();
    }
}
