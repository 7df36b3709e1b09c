/** The edges that Terms 2 and 3 name of what is told by hand, of ACTS, of THE IMAGE and of REFUSALS. */
final class EdgesOfHand {
    private final Edges e;

    EdgesOfHand(Edges e) {
        this.e = e;
    }

    void run() {
        seen();
        plan();
        done();
        book();
        looked();
        acts();
        bodies();
        trace();
        image();
        refusals();
    }

    private void seen() {
        String sentence = "SEEN told by hand: one of MATTERS, n EVENINGS (0 .. 20) from now, whether it is SETTLED then;"
            + " 5 at most";
        e.edge(sentence, "matter 0 0", "text cool 4 p=0 = 0", "still see 0 -1 true = BAD", "see 0 20 true = 1",
            "still see 0 21 true = BAD", "dues 0 = 20", "see 0 19 false = 2", "dues 0 = 1", "dues 1 = 20",
            "see 0 0 false = 3", "dues 0 = 1", "see 0 1 false = 4", "dues 0 = 1", "see 0 0 true = 5", "dues 0 = 0",
            "still see 0 1 true = FULL", "count 2 = 5", "dues 0 = 0");
        e.edge(sentence, "2 times matter 0 0", "4 times see 0 0 false", "dues 0 = 60", "see 1 1 true = 5", "dues 0 = 0",
            "see -1 0 true = 0", "dues 0 = 60", "see 0 4 true = 1", "dues 0 = 20", "talk 0", "dues 0 = 25",
            "shelve 0 true", "dues 0 = 0");
    }

    private void plan() {
        String sentence = "PLAN told by hand: rows of what 0 an EVENING goes with TALK of TOPIC (the other not looked at),"
            + " 1 one goes with TALK of one, 2 one is SHELVED, 3 one is not; 8 at most";
        e.edge(sentence, "matter 0 0", "text due 40 = 0", "7 times plan 0 9", "done 0 = 0", "done 1 = 7", "count 3 = 7",
            "plan 0 LEAST = 8", "done 0 = 1", "done 1 = 7", "still plan 0 0 = FULL", "still plan 1 0 = FULL", "count 3 = 8",
            "done 0 = 1");
        e.edge(sentence, "matter 0 0", "still plan -2 0 = NONE", "still plan 4 0 = NONE", "plan 3 0 = 1", "plan 0 0 = 2",
            "still plan MOST 0 = NONE", "still plan LEAST 0 = NONE", "count 3 = 2");
        e.edge("(the other not looked at)", "plan 0 0 = 1", "plan 0 -1 = 2", "plan 0 6 = 3", "plan 0 LEAST = 4",
            "plan 0 MOST = 5", "still plan 1 0 = NONE", "done 1 = 0", "matter 0 0", "done 1 = 3", "done 0 = 1");
    }

    private void done() {
        e.edge("DONE: which are SETTLED (bits); COST. BOOK",
            "done 0 = 0", "done 1 = 0", "2 times matter 0 0", "talk -1", "done 0 = 0", "done 1 = 2", "text due 0 = 0",
            "plan 2 0", "plan 2 1", "plan 0 0", "done 0 = 0", "done 1 = 2", "plan 3 1", "plan 1 0", "done 0 = 0",
            "done 1 = 3", "plan 0 0", "done 0 = 2", "done 1 = 3", "plan 3 0", "count 3 = 7", "plan 1 0", "done 0 = 3",
            "done 1 = 3", "told 3 = 2", "told 0 = 1", "of 0 5 = 0", "told 4 = 0");
        e.edge("2 one is SHELVED, 3 one is not", "3 times matter 0 0", "plan 3 0", "plan 1 1", "done 1 = 3", "plan 2 0",
            "plan 1 1", "done 1 = 5", "plan 2 2", "plan 1 1", "done 1 = 6", "plan 3 2", "plan 1 1", "done 1 = 7",
            "done 0 = 2", "told 5 = 7", "shelve 2 true", "plan -1 0", "plan 2 2", "plan 0 0", "done 1 = 2", "plan 3 2",
            "plan 3 2", "plan 0 0", "done 1 = 5");
    }

    private void book() {
        String sentence = "BOOK told by hand: MATTERS and TALKED (0 .. 99); 8 at most";
        e.edge(sentence, "matter 0 0", "still book 0 -1 = BAD", "book 0 0 = 1", "looked = -5", "6 times book 0 0",
            "looked = -5", "still book 0 100 = BAD", "count 4 = 7", "book 0 99 = 8", "looked = 7",
            "still book 0 0 = FULL", "still book 0 99 = FULL", "count 4 = 8", "looked = 7", "still book 0 100 = BAD",
            "still book 0 LEAST = BAD", "still book 0 MOST = BAD");
        e.edge(sentence, "matter 0 0", "text due 99;warm 94 p=0 = 0", "book 0 99 = 1", "looked = 0", "talk 0 = 1",
            "looked = -5");
    }

    private void looked() {
        e.edge("LOOKED at: the first by which it is otherwise now (-5: none)",
            "looked = -5", "2 times matter 0 0", "looked = -5", "book 0 1", "looked = 0", "book 1 1", "looked = 0",
            "book -1 0 = 0", "looked = -5", "book 0 0", "looked = -5", "book 1 0", "looked = -5", "book 1 5", "looked = 2",
            "talk 1", "looked = 1", "talk 0", "looked = 0", "reopen 0", "looked = 1", "reopen 1", "looked = 2");
    }

    /** Each body with the last x by which it does not wrap and the first by which it does. */
    private void acts() {
        e.edge("ACTS of a MATTER with x (ints, wrapping)", "2 times matter 0 0", "act 0 0 0 = 0", "act 0 0 MOST = 2147483647",
            "act 0 0 LEAST = -2147483648", "act 1 0 -1 = 0", "act 1 0 MOST = -2147483648");
        e.edge("MATTER: 1 waits: x + i", "6 times matter 0 9", "act 5 0 2147483642 = 2147483647",
            "act 5 0 2147483643 = -2147483648", "act 0 0 MOST = 2147483647", "act 5 0 LEAST = -2147483643");
        e.edge("2 nods: waits(x) - v", "matter 0 9", "act 0 1 -2147483639 = -2147483648", "act 0 1 -2147483640 = 2147483647",
            "matter 0 0", "act 1 1 MOST = -2147483648", "act 1 1 LEAST = -2147483647");
        e.edge("3 turns: nods(x) * 2", "matter 0 0", "act 0 2 1073741823 = 2147483646", "act 0 2 1073741824 = -2147483648",
            "act 0 2 -1073741824 = -2147483648", "act 0 2 -1073741825 = 2147483646");
        e.edge("MARRIAGE: 11 waits: super.waits(x * 3)", "matter 1 0", "act 0 0 715827882 = 2147483646",
            "act 0 0 715827883 = -2147483647", "act 0 0 -715827882 = -2147483646", "act 0 0 -715827883 = 2147483647");
        e.edge("BOUNDARY: 21 nods: -super.nods(x)", "matter 2 0", "act 0 1 -2147483647 = 2147483647",
            "act 0 1 LEAST = -2147483648", "act 0 1 MOST = -2147483647");
        e.edge("LOAN: 31 turns: super.turns(x) ^ 7", "matter 3 0", "act 0 2 1073741823 = 2147483641",
            "act 0 2 1073741824 = -2147483641", "act 0 2 0 = 7");
        e.edge("POSSIBLE: 41 turns: super.turns(x - 1) + waits(2)", "matter 4 0", "act 0 2 LEAST = 0",
            "act 0 2 357913941 = 2147483646", "act 0 2 357913942 = -2147483644", "act 0 2 0 = 0");
        e.edge("FRONTIER: 51 waits: super.waits(x) ^ i", "matter 0 0", "matter 5 0", "act 1 0 MOST = -2147483647",
            "act 1 0 2147483646 = 2147483646", "act 1 0 LEAST = -2147483648");
        e.edge("TOLD: 61 nods: super.nods(x) + v", "matter 6 9", "act 0 1 LEAST = -2147483648", "act 0 1 MOST = 2147483647");
        e.edge("what stands in a body is done from the left on", "matter 4 3", "act 0 2 5 = 24", "count 6 = 7", "trace 0 = 41",
            "trace 1 = 3", "trace 2 = 2", "trace 3 = 11", "trace 4 = 1", "trace 5 = 11", "trace 6 = 1");
    }

    private void bodies() {
        e.edge("the body of its KIND, or, if that has none, of the next KIND above that has one",
            "matter 4 0", "act 0 0 1 = 3", "trace 0 = 11", "trace 1 = 1", "trace 2 = NONE", "act 0 1 1 = 3", "trace 0 = 2",
            "trace 1 = 11", "trace 2 = 1", "matter 5 0", "act 1 1 1 = -3", "trace 0 = 21", "trace 1 = 2", "trace 2 = 51",
            "trace 3 = 1", "matter 6 0", "act 2 0 1 = 3", "trace 0 = 1", "count 6 = 1", "act 2 2 1 = 1", "trace 0 = 31",
            "trace 1 = 3", "trace 2 = 61", "trace 3 = 2", "trace 4 = 1", "count 6 = 5");
    }

    private void trace() {
        e.edge("THE TRACE: the numbers of the bodies that ran in the latest act(), as they began; the first 20 are kept",
            "trace 0 = NONE", "count 6 = 0", "matter 4 0", "act 0 2 1", "count 6 = 7", "trace 0 = 41", "trace 1 = 3",
            "trace 2 = 2", "trace 3 = 11", "trace 4 = 1", "trace 5 = 11", "trace 6 = 1", "still trace 7 = NONE",
            "still trace 19 = NONE", "still trace 20 = NONE", "act 0 0 1", "count 6 = 2", "trace 0 = 11", "trace 1 = 1",
            "trace 2 = NONE", "trace 6 = NONE");
    }

    private void image() {
        e.edge("(but THE IMAGE and THE TRACE)", "still undo = STATE", "matter 4 0", "act 0 2 1", "image = 1", "count 6 = 7",
            "trace 0 = 41", "trace 6 = 1", "act 0 0 1", "undo = 1", "count 6 = 2", "trace 0 = 11", "trace 2 = NONE",
            "talk 0", "matter 0 0", "pass 3", "shelve 0 true", "reopen 0", "text due 3", "count 6 = 2", "trace 1 = 1",
            "undo = 1", "count 0 = 1", "count 6 = 2");
        e.edge("THE IMAGE: all that there is (but THE IMAGE and THE TRACE)",
            "matter 6 1", "matter 1 2", "image = 2", "matter 0 9", "undo = 2", "count 0 = 2", "of 2 0 = -999999",
            "image = 2", "act 0 0 5", "act 1 2 5", "undo = 2", "count 6 = 4", "trace 0 = 3", "trace 3 = 1", "trace 4 = NONE");
        e.edge("THE IMAGE: all that there is", "image = 0",
            "matter 6 1", "text due 3 = 0", "tape due", "talk 0", "see 0 0 true", "plan 0 0", "book 0 0", "undo = 0",
            "count 0 = 0", "count 1 = 0", "count 2 = 0", "count 3 = 0", "count 4 = 0", "count 5 = 0", "told 0 = 0",
            "told 1 = 20", "told 3 = 0", "station = -10", "matter 6 2 = 0", "row 0 0 0 = 0", "of 0 1 = 2");
        e.edge("all that there is (but THE IMAGE", "6 times matter 6 1", "text due 1", "text due 2", "text due 3",
            "text due 4", "text due 7 = 4", "100 times feed 33", "5 times see 0 20 false", "8 times plan 0 0",
            "8 times book 0 5", "talk 0", "talk 0", "row 5 3 9", "tie 5 0 true", "shelve 3 true", "image = 6",
            "reopen 0", "tie 5 0 false", "shelve 3 false", "row 5 3 1", "talk 1", "see -1 0 true", "plan -1 0", "book -1 0",
            "undo = 6", "count 0 = 6", "count 1 = 5", "count 2 = 5", "count 3 = 8", "count 4 = 8", "count 5 = 100",
            "told 0 = 2", "told 1 = 7", "told 4 = 1", "of 0 3 = 10", "of 5 8 = 1", "of 3 5 = 1", "row 5 3 0 = 9",
            "feed 33 = FULL", "matter 0 0 = FULL", "see 0 0 true = FULL", "plan 0 0 = FULL", "book 0 0 = FULL",
            "station = FULL");
    }

    private void refusals() {
        String order = "REFUSALS, of several the first one told";
        e.edge(order, "still matter 7 10 = NONE", "still matter -1 -1 = NONE", "matter 0 0", "still row 1 0 10 = NONE",
            "still row 0 4 10 = NONE", "still row 0 0 10 = BAD", "still row 0 0 9 = STATE", "still tie 1 1 true = NONE",
            "still tie 0 0 true = BAD", "still on 61 9 = NONE", "still agenda 5 14 = NONE", "still agenda 5 13 = BAD",
            "still see 1 21 true = NONE", "still book 1 100 = NONE", "still odds 1 61 2 = NO");
        e.edge(order, "6 times matter 0 0", "still matter 7 0 = NONE", "still matter 0 10 = BAD", "still matter 0 9 = FULL",
            "100 times feed 33", "still feed 128 = BAD", "still feed 127 = FULL", "5 times see 0 0 false",
            "still see 6 0 false = NONE", "still see 0 21 false = BAD", "still see 0 20 false = FULL",
            "8 times plan 0 0", "still plan 4 0 = NONE", "still plan 3 6 = NONE", "still plan 3 5 = FULL",
            "8 times book 0 0", "still book 6 0 = NONE", "still book 0 100 = BAD", "still book 0 99 = FULL");
        e.edge(order, "matter 0 0", "166 times pass 60", "pass 39 = 9999", "still talk 1 = NONE", "still talk 0 = STATE",
            "still pass 61 = BAD", "still pass 60 = STATE", "still pass -1 = BAD");
        e.edge("They change nothing.", "matter 6 3", "matter 1 2", "row 0 1 4", "tie 1 0 true", "text due 9;fade 2 = 0",
            "talk 0", "shelve 1 true", "tape fade 7", "see 1 2 false", "plan 1 1", "book 1 0", "act 0 2 3", "image", "talk 0",
            "feed 59", "still feed 128 = BAD", "still matter 7 0 = NONE", "still matter 0 10 = BAD", "still of 2 0 = -999999",
            "still row 0 4 9 = NONE", "still row 0 0 10 = BAD", "still row 1 0 9 = STATE", "still tie 0 2 true = NONE",
            "still tie 0 0 true = BAD", "still shelve 2 true = NONE", "still reopen 2 = NONE", "still told 9 = NONE",
            "still talk 2 = NONE", "still pass 61 = BAD", "still on 0 12 = NONE", "still on 61 0 = BAD", "still when 2 = NONE",
            "still agenda 1 2 = NONE", "still agenda 5 0 = BAD", "still net 2 = NONE", "still see 2 0 true = NONE",
            "still see 0 21 true = BAD", "still dues 2 = NONE", "still firm 0 2 = NONE", "still odds 0 0 2 = NO",
            "still mean 2 = NO", "still plan 4 0 = NONE", "still plan 1 2 = NONE", "still done 2 = NONE",
            "still book 2 0 = NONE", "still book 0 100 = BAD", "still trace 9 = NONE", "still as 0 7 = NONE",
            "still count 7 = NONE", "still as 1 2 = -6");
        e.edge("There is no such number", "mean 0 = NO", "odds 0 0 0 = NO", "matter 0 0", "mean 0 = 0", "odds 0 0 0 = 0");
        e.edge("Where an answer may be below 0, -999999 tells NONE", "matter 2 9", "of 0 7 = -4",
            "still of 1 7 = -999999", "still of 0 9 = -999999", "still of -1 0 = -999999", "still of 0 -1 = -999999");
    }
}
