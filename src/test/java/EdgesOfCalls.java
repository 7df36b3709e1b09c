/** The edges that each promise names of its own call. */
final class EdgesOfCalls {
    private final Edges e;

    EdgesOfCalls(Edges e) {
        this.e = e;
    }

    void run() {
        newObject();
        feed();
        station();
        matter();
        of();
        row();
        tie();
        shelve();
        reopen();
        told();
        talk();
        pass();
        on();
        when();
        agenda();
        net();
        see();
        clearSeen();
        dues();
        firm();
        odds();
        mean();
        plan();
        done();
        book();
        looked();
        act();
        trace();
        as();
        image();
        undo();
        undoneOnce();
        count();
    }

    private void newObject() {
        e.edge("No MATTERS, no STATION.",
            "count 0 = 0", "count 1 = 0", "count 2 = 0", "count 3 = 0", "count 4 = 0", "count 5 = 0", "count 6 = 0",
            "told 0 = 0", "told 1 = 20", "told 2 = 1", "told 3 = 0", "told 4 = 0", "told 5 = 0", "told 6 = -5",
            "told 7 = 0", "told 8 = 0", "of 0 0 = -999999", "row 0 0 0 = NONE", "tie 0 0 true = NONE",
            "shelve 0 true = NONE", "reopen 0 = NONE", "talk 0 = NONE", "on 0 0 = 0", "on 60 1 = 0", "on 0 10 = NONE",
            "when 0 = NONE", "net 0 = NONE", "see 0 0 true = NONE", "firm 0 0 = NONE", "odds 0 0 0 = NO", "mean 0 = NO",
            "plan 1 0 = NONE", "done 0 = 0", "done 1 = 0", "book 0 0 = NONE", "looked = -5", "act 0 0 0 = 0",
            "trace 0 = NONE", "as 0 0 = NONE", "undo = STATE", "pass 0 = 0", "talk -1 = 0", "told 0 = 1");
    }

    private void feed() {
        e.edge("A sign (0 .. 127) comes behind THE TAPE's: how many it has. BAD; FULL.",
            "still feed -1 = BAD", "feed 0 = 1", "feed 127 = 2", "still feed 128 = BAD", "still feed LEAST = BAD",
            "still feed MOST = BAD", "still feed 256 = BAD", "97 times feed 59", "count 5 = 99", "feed 59 = 100",
            "still feed 59 = FULL", "still feed -1 = BAD", "still feed 128 = BAD", "count 5 = 100", "station = -10",
            "feed 59 = 1");
    }

    private void station() {
        String empty = "THE TAPE, which is empty then (by a FAULT, too), is a STATION, and holds: its number";
        e.edge(empty, "tape due 3 = 5", "station = 0", "count 5 = 0", "told 1 = 3", "tape due = 3", "station = -13",
            "count 5 = 0", "tape fade 3 = 6", "station = 1", "told 2 = 3", "tape x = 1", "station = -10", "feed 100 = 1");
        e.edge("-10 less the FAULT (the one that held holds)", "station = -10", "told 1 = 20", "text x = -10",
            "text d = -11", "matter 0 0", "text due 3;fade 4;warm 5 p=0 = 0", "text due 7;fade 8;warm 9 p=0; = -34",
            "count 1 = 1", "told 1 = 3", "told 2 = 4", "of 0 7 = 10", "station = -10", "told 1 = 3",
            "text warm 1 p=0" + "|p=0".repeat(22) + "|p = -110", "of 0 7 = 10");
        String behind = "(by a FAULT, too), is a STATION";
        e.edge(behind, "matter 0 0", "text due 3;fade 4;warm 5 p=0;cool 9 k=0; = -45", "text due 9 = 0", "told 1 = 9",
            "told 2 = 1", "of 0 7 = 5");
        e.edge(behind, "matter 0 0", "text due 3;fade 4;warm 5 p=0;cool 9 !k=0|n=0; = -50", "text fade 9;warm 1 p=0 = 0",
            "told 1 = 20", "told 2 = 9", "of 0 7 = 6");
        e.edge(behind, "matter 0 0", "3 times text warm 9 p=0" + "&p=0".repeat(22) + "& = -109",
            "text cool 1 p=1" + "&p=0".repeat(22) + " = 0", "of 0 7 = 5");
        e.edge(behind, "matter 0 0", "3 times text " + "warm 9 p=0;".repeat(8) + " = -98",
            "text " + "warm 1 p=0;".repeat(8) + "cool 1 p=1 = 0", "of 0 7 = 13");
        e.edge("FULL (ahead of all; THE TAPE stays).", "text due 1 = 0", "text due 2 = 1", "text due 3 = 2",
            "text due 4 = 3", "image = 0", "text due 5 = 4", "still station = FULL", "tape due 6x", "still station = FULL",
            "count 5 = 6", "undo = 0", "count 1 = 4", "told 1 = 4", "tape due = 3", "image = 0", "text  8 = 4",
            "undo = 0", "count 5 = 3", "station = -13");
    }

    private void matter() {
        e.edge("One of MATTERS: its number. NONE: kind; BAD: v; FULL: 6.",
            "still matter -1 0 = NONE", "still matter 7 9 = NONE", "still matter 0 -1 = BAD", "still matter 6 10 = BAD",
            "matter 0 0 = 0", "matter 6 9 = 1", "matter 0 9 = 2", "matter 6 0 = 3", "matter 3 5 = 4",
            "still matter 7 10 = NONE", "matter 1 1 = 5", "still matter 1 1 = FULL", "still matter 7 1 = NONE",
            "still matter 1 10 = BAD", "count 0 = 6");
    }

    private void of() {
        e.edge("Of a MATTER what 0 KIND, 1 v, 2 AGE, 3 TALKED, 4 whether it is SETTLED, 5 SHELVED, 6 READY, 7 STIR,"
            + " 8 on which it HANGS (bits). -999999: NONE.",
            "matter 5 3", "matter 0 9", "tie 0 1 true", "still of -1 0 = -999999", "still of 2 0 = -999999",
            "still of LEAST 0 = -999999", "still of MOST 0 = -999999", "still of 0 -1 = -999999",
            "still of 0 9 = -999999", "still of 0 LEAST = -999999", "still of 0 MOST = -999999",
            "of 0 0 = 5", "of 0 1 = 3", "of 0 2 = 0", "of 0 3 = 0", "of 0 4 = 0", "of 0 5 = 0", "of 0 6 = 0", "of 0 7 = 2",
            "of 0 8 = 2", "talk 1", "of 1 0 = 0", "of 1 1 = 9", "of 1 2 = 1", "of 1 3 = 5", "of 1 6 = 1", "of 1 7 = 5",
            "of 1 8 = 0", "text due 0", "talk 1", "of 1 4 = 1", "shelve 1 true", "of 1 5 = 1", "of 1 6 = 0");
    }

    private void row() {
        e.edge("The ROW of a TOLD one becomes n (0 .. 9) for EVENINGS modulo 4 being k: what it was. NONE: matter, k; BAD;"
            + " STATE: another KIND.",
            "matter 6 0", "matter 3 0", "matter 5 0", "still row -1 0 0 = NONE", "still row 3 0 0 = NONE",
            "still row 0 -1 0 = NONE", "still row 0 4 0 = NONE", "still row 0 0 -1 = BAD", "still row 0 0 10 = BAD",
            "still row 1 0 0 = STATE", "still row 2 3 9 = STATE", "still row 1 4 0 = NONE", "still row 1 0 10 = BAD",
            "still row LEAST 0 0 = NONE", "still row 0 MOST 0 = NONE", "still row 0 0 MOST = BAD",
            "still row 0 0 LEAST = BAD", "row 0 0 9 = 0", "row 0 0 0 = 9", "row 0 3 1 = 0", "row 0 3 9 = 1", "row 0 3 9 = 9",
            "of 0 7 = 5", "pass 3", "of 0 7 = 14", "pass 1", "of 0 7 = 5");
        e.edge("for EVENINGS modulo 4 being k", "5 times matter 0 0", "matter 6 0", "matter 6 0 = FULL", "row 5 3 9 = 0",
            "row 5 0 1 = 0", "of 5 7 = 6", "pass 3", "of 5 7 = 14", "pass 1", "of 5 7 = 6", "still row 4 3 9 = STATE",
            "still row 6 3 9 = NONE");
    }

    private void tie() {
        e.edge("One HANGS on another one, or not: whether it did. NONE; BAD: one is both.",
            "still tie 0 0 true = NONE", "2 times matter 0 0", "still tie -1 0 true = NONE", "still tie 0 -1 true = NONE",
            "still tie 2 0 true = NONE", "still tie 0 2 true = NONE", "still tie 2 2 true = NONE",
            "still tie MOST 0 true = NONE", "still tie 0 LEAST false = NONE", "still tie 0 32 true = NONE",
            "still tie 0 0 true = BAD", "still tie 1 1 false = BAD", "still tie 0 1 false = 0", "tie 0 1 true = 0",
            "still tie 0 1 true = 1", "tie 1 0 true = 0", "of 0 8 = 2", "of 1 8 = 1", "tie 0 1 false = 1", "of 0 8 = 0",
            "of 1 8 = 1", "still tie 0 1 false = 0");
    }

    private void shelve() {
        e.edge("One is SHELVED, or not: whether it was. NONE.",
            "still shelve 0 true = NONE", "2 times matter 0 0", "still shelve -1 true = NONE", "still shelve 2 true = NONE",
            "still shelve LEAST true = NONE", "still shelve MOST false = NONE", "still shelve 1 false = 0",
            "shelve 1 true = 0", "still shelve 1 true = 1", "of 0 5 = 0", "of 1 5 = 1", "shelve 0 true = 0",
            "shelve 1 false = 1", "of 0 5 = 1", "of 1 5 = 0", "still shelve 1 false = 0");
    }

    private void reopen() {
        e.edge("One is SETTLED no more, TALKED 0, AGE 0: whether it was SETTLED. NONE.",
            "still reopen 0 = NONE", "2 times matter 0 0", "still reopen -1 = NONE", "still reopen 2 = NONE",
            "still reopen LEAST = NONE", "still reopen MOST = NONE", "still reopen 1 = 0", "text due 10 = 0", "talk 1 = 0",
            "talk 1 = 2", "of 1 2 = 1", "of 1 3 = 10", "reopen 1 = 1", "of 1 4 = 0", "of 1 3 = 0", "of 1 2 = 0",
            "of 0 2 = 2", "told 4 = 0", "still reopen 1 = 0", "talk 0", "reopen 0 = 0", "of 0 3 = 0", "of 0 2 = 0",
            "of 1 2 = 1", "told 0 = 3");
    }

    private void told() {
        e.edge("What 0 EVENING, 1 DUE, 2 FADE, 3 COST, 4 which are SETTLED (bits), 5 which are READY (bits),"
            + " 6 TOPIC (-5: none), 7 RING (bits), 8 LOOSE. NONE.",
            "still told -1 = NONE", "still told 9 = NONE", "still told LEAST = NONE", "still told MOST = NONE",
            "told 6 = -5", "4 times matter 0 0", "text due 5;fade 2 = 0", "talk 3", "tie 0 1 true", "tie 1 0 true",
            "told 0 = 1", "told 1 = 5", "told 2 = 2", "told 3 = 3", "told 4 = 8", "told 5 = 4", "told 6 = 2", "told 7 = 3",
            "told 8 = 1");
    }

    private void talk() {
        e.edge("An EVENING goes with TALK of one (-1: of none): which are SETTLED then (bits). NONE; STATE: EVENING is 9999.",
            "still talk 0 = NONE", "talk -1 = 0", "still talk -2 = NONE", "matter 0 0", "talk 0 = 0", "still talk 1 = NONE",
            "still talk LEAST = NONE", "still talk MOST = NONE", "told 0 = 2", "166 times pass 60", "pass 36 = 9998",
            "talk 0 = 0", "told 0 = 9999", "still talk 0 = STATE", "still talk -1 = STATE", "still talk 1 = NONE",
            "still talk -2 = NONE", "of 0 3 = 5", "told 3 = 9998");
        e.edge("which are SETTLED then (bits). NONE; STATE", "6 times matter 0 0", "text due 0", "talk 5 = 32", "talk 0 = 33",
            "talk -1 = 33", "talk 1 = 35", "talk 2 = 39", "talk 3 = 47", "talk 4 = 63", "talk 4 = 63", "talk -1 = 63");
    }

    private void pass() {
        e.edge("n EVENINGS (0 .. 60) go with TALK of none: EVENING. BAD; STATE: it would be above 9999.",
            "matter 0 0", "still pass -1 = BAD", "still pass 61 = BAD", "still pass LEAST = BAD", "still pass MOST = BAD",
            "still pass 0 = 0", "pass 1 = 1", "pass 60 = 61", "told 3 = 61", "of 0 2 = 61", "of 0 3 = 0",
            "164 times pass 60", "told 0 = 9901", "pass 60 = 9961", "still pass 60 = STATE", "still pass 39 = STATE",
            "told 0 = 9961", "pass 37 = 9998", "still pass 2 = STATE", "pass 1 = 9999", "still pass 1 = STATE",
            "still pass 0 = 9999", "still pass 61 = BAD", "still pass -1 = BAD");
    }

    private void on() {
        e.edge("what 0 which are SETTLED (bits), 1 COST, 10 and p TALKED of MATTER p. NONE; BAD: n.",
            "still on 0 10 = NONE", "6 times matter 0 0", "talk 5", "talk 0", "still on 0 -1 = NONE", "on 0 0 = 0",
            "on 0 1 = 12", "still on 0 2 = NONE", "still on 0 9 = NONE", "on 0 10 = 5", "on 0 15 = 4",
            "still on 0 16 = NONE", "still on 0 LEAST = NONE", "still on 0 MOST = NONE", "still on -1 15 = BAD",
            "on 60 15 = 20", "still on 61 15 = BAD", "still on 61 16 = NONE", "still on -1 2 = NONE");
    }

    private void when() {
        e.edge("WHEN; -5. NONE.", "still when 0 = NONE", "2 times matter 0 0", "when 0 = 4", "when 1 = 8",
            "still when -1 = NONE", "still when 2 = NONE", "still when LEAST = NONE", "still when MOST = NONE",
            "shelve 1 true", "when 1 = -5");
    }

    private void agenda() {
        e.edge("AGENDA: what 0 how many, 1 how much more COST, 10 and k the k-th (9: none; k 0 .. 3; -5: there are fewer)."
            + " NONE: what; BAD: n.",
            "agenda 1 10 = 9", "matter 0 0", "still agenda 1 -1 = NONE", "still agenda 1 2 = NONE", "still agenda 1 9 = NONE",
            "agenda 1 10 = 0", "agenda 1 11 = -5", "agenda 1 13 = -5", "agenda 2 11 = 0", "agenda 2 12 = -5",
            "agenda 3 12 = 0", "agenda 3 13 = -5", "agenda 4 13 = 0", "still agenda 4 14 = NONE",
            "still agenda 1 LEAST = NONE", "still agenda 1 MOST = NONE", "still agenda 0 13 = BAD", "still agenda 5 10 = BAD",
            "still agenda 0 14 = NONE", "still agenda 5 2 = NONE", "still agenda 0 1 = BAD", "still agenda 5 0 = BAD");
    }

    private void net() {
        e.edge("NET (bits). NONE.", "still net 0 = NONE", "2 times matter 0 0", "net 0 = 0", "net 1 = 0",
            "still net -1 = NONE", "still net 2 = NONE", "still net LEAST = NONE", "still net MOST = NONE");
    }

    private void see() {
        e.edge("What is SEEN comes: how many there are", "still see 0 0 true = NONE", "2 times matter 0 0",
            "still see -2 0 true = NONE", "still see 2 0 true = NONE", "still see 1 -1 true = BAD", "still see 1 21 true = BAD",
            "still see 0 LEAST true = BAD", "still see 0 MOST false = BAD", "still see MOST 0 true = NONE",
            "still see LEAST 0 true = NONE", "see 0 0 false = 1", "see 1 20 true = 2", "see 0 20 true = 3",
            "see 1 0 false = 4", "see 0 1 false = 5", "still see 0 0 false = FULL", "still see 2 0 true = NONE",
            "still see 0 21 true = BAD", "count 2 = 5", "dues 0 = 45", "dues 1 = 6");
    }

    private void clearSeen() {
        e.edge("(matter -1: none then, 0, whatever the others are). NONE; BAD: n; FULL: 5.",
            "still see -1 0 true = 0", "matter 0 0", "see 0 0 true = 1", "dues 0 = 0", "see -1 21 true = 0", "count 2 = 0",
            "dues 0 = 60", "see 0 0 true = 1", "see -1 -1 false = 0", "count 2 = 0", "5 times see 0 0 true", "count 2 = 5",
            "see -1 MOST true = 0", "count 2 = 0", "see 0 0 false = 1", "see -1 LEAST true = 0", "dues 0 = 60");
    }

    private void dues() {
        e.edge("DUES: what 0 how many, 1 the least; -5. NONE.", "still dues -1 = NONE", "dues 0 = 60", "dues 1 = 1",
            "still dues 2 = NONE", "still dues LEAST = NONE", "still dues MOST = NONE", "matter 0 0", "see 0 0 true",
            "dues 0 = 0", "dues 1 = -5", "still dues -1 = NONE", "still dues 2 = NONE");
    }

    private void firm() {
        e.edge("FIRM: what 0 how many, 1 the least; -5. NONE.", "still firm 0 0 = NONE", "2 times matter 0 0",
            "firm 0 0 = 10", "firm 1 1 = 0", "still firm -1 0 = NONE", "still firm 2 0 = NONE", "still firm 0 -1 = NONE",
            "still firm 0 2 = NONE", "still firm LEAST 0 = NONE", "still firm 0 MOST = NONE", "see 0 0 true",
            "firm 0 0 = 0", "firm 0 1 = -5");
    }

    private void odds() {
        e.edge("ODDS. NO: matter, n, part.", "still odds 0 0 0 = NO", "2 times matter 0 0", "odds 0 0 0 = 0", "odds 1 0 1 = 1",
            "still odds -1 0 0 = NO", "still odds 2 0 0 = NO", "still odds 0 -1 0 = NO", "odds 1 60 0 = 1",
            "still odds 1 61 0 = NO", "still odds 0 0 -1 = NO", "still odds 0 0 2 = NO", "still odds LEAST 0 0 = NO",
            "still odds 0 MOST 0 = NO", "still odds 0 0 MOST = NO", "still odds 0 0 LEAST = NO");
    }

    private void mean() {
        e.edge("MEAN. NO: part, there are none.", "still mean 0 = NO", "still mean 1 = NO", "matter 0 0", "mean 0 = 0",
            "mean 1 = 1", "still mean -1 = NO", "still mean 2 = NO", "still mean LEAST = NO", "still mean MOST = NO",
            "shelve 0 true", "mean 0 = NO", "mean 1 = NO");
    }

    private void plan() {
        e.edge("A row comes to the PLAN: how many there are (what -1: none then, 0, whatever the other is). NONE: what,"
            + " MATTER (but by 0); FULL: 8.",
            "still plan -1 0 = 0", "matter 0 0", "still plan -2 0 = NONE", "still plan 4 0 = NONE", "still plan 1 -1 = NONE",
            "still plan 1 1 = NONE", "still plan 2 1 = NONE", "still plan 2 -1 = NONE", "still plan 3 1 = NONE",
            "still plan 3 -1 = NONE", "still plan 3 LEAST = NONE", "still plan 1 MOST = NONE", "plan 0 1 = 1", "plan 0 -1 = 2",
            "plan 1 0 = 3", "plan 2 0 = 4", "plan 3 0 = 5", "plan -1 1 = 0", "count 3 = 0", "plan 0 0 = 1",
            "plan -1 MOST = 0", "7 times plan 0 0", "plan 3 0 = 8", "still plan 3 0 = FULL", "still plan 0 7 = FULL",
            "still plan 4 0 = NONE", "still plan 3 1 = NONE", "done 0 = 1", "plan -1 LEAST = 0", "count 3 = 0", "done 0 = 0",
            "plan 0 0 = 1");
    }

    private void done() {
        e.edge("DONE: what 0 which are SETTLED (bits), 1 COST. NONE.", "done 0 = 0", "done 1 = 0", "still done -1 = NONE",
            "still done 2 = NONE", "still done LEAST = NONE", "still done MOST = NONE", "matter 0 0", "plan 0 0",
            "done 1 = 1", "still done -1 = NONE", "still done 2 = NONE");
    }

    private void book() {
        e.edge("A row comes to BOOK: how many there are", "still book 0 0 = NONE", "2 times matter 0 0",
            "still book -2 0 = NONE", "still book 2 0 = NONE", "still book 0 -1 = BAD", "still book 1 100 = BAD",
            "still book MOST 0 = NONE", "still book LEAST 0 = NONE", "still book 2 100 = NONE", "book 0 0 = 1",
            "book 1 0 = 2", "looked = -5", "5 times book 1 0", "book 1 99 = 8", "looked = 7", "still book 1 0 = FULL",
            "still book 2 0 = NONE", "still book 1 -1 = BAD", "count 4 = 8");
        e.edge("(matter -1: none then, 0, whatever the other is). NONE; BAD: talked; FULL: 8.", "still book -1 0 = 0",
            "matter 0 0", "book 0 5 = 1", "looked = 0", "book -1 100 = 0", "count 4 = 0", "looked = -5", "8 times book 0 5",
            "count 4 = 8", "book -1 -1 = 0", "count 4 = 0", "book 0 0 = 1", "book -1 LEAST = 0", "book 0 0 = 1",
            "book -1 MOST = 0", "looked = -5");
    }

    private void looked() {
        e.edge("LOOKED at; -5.", "looked = -5", "6 times matter 0 0", "7 times book 5 0", "looked = -5", "book 5 1 = 8",
            "looked = 7", "talk 5", "looked = 0");
    }

    private void act() {
        e.edge("An ACT (0 waits, 1 nods, 2 turns) of a MATTER with x. 0, and no TRACE then: no such MATTER, act.",
            "still act 0 0 5 = 0", "matter 0 1", "still act 1 0 5 = 0", "still act 0 3 5 = 0", "act 0 0 5 = 5",
            "count 6 = 1", "act 0 -1 5 = 0", "count 6 = 0", "trace 0 = NONE", "act 0 1 5 = 4", "count 6 = 2",
            "act 0 3 5 = 0", "count 6 = 0", "trace 0 = NONE", "act 0 2 5 = 8", "count 6 = 3", "act -1 2 5 = 0", "count 6 = 0",
            "trace 0 = NONE", "act 0 2 5 = 8", "act 1 2 5 = 0", "count 6 = 0", "trace 0 = NONE", "act 0 2 5 = 8",
            "act MOST 0 5 = 0", "count 6 = 0", "act 0 2 5 = 8", "act LEAST 0 5 = 0", "count 6 = 0", "act 0 2 5 = 8",
            "act 0 MOST 5 = 0", "count 6 = 0", "act 0 2 5 = 8", "act 0 LEAST 5 = 0", "count 6 = 0", "still act -1 -1 5 = 0");
    }

    private void trace() {
        e.edge("THE TRACE's i-th body. NONE.", "still trace 0 = NONE", "matter 0 0", "act 0 2 1", "trace 0 = 3", "trace 1 = 2",
            "trace 2 = 1", "still trace 3 = NONE", "still trace -1 = NONE", "still trace LEAST = NONE",
            "still trace MOST = NONE", "act 0 0 1", "trace 0 = 1", "trace 1 = NONE");
    }

    private void as() {
        e.edge("A MATTER taken for a KIND k (0 .. 6), or one under that: its v. NONE: matter, k; -6: it is of another KIND.",
            "still as 0 0 = NONE", "matter 4 9", "matter 6 0", "still as -1 0 = NONE", "still as 2 0 = NONE",
            "still as 0 -1 = NONE", "still as 0 7 = NONE", "still as LEAST 0 = NONE", "still as MOST 0 = NONE",
            "still as 0 LEAST = NONE", "still as 0 MOST = NONE", "as 0 0 = 9", "as 0 1 = 9", "as 0 2 = -6", "as 0 3 = -6",
            "as 0 4 = 9", "as 0 5 = -6", "as 0 6 = -6", "as 1 0 = 0", "as 1 1 = -6", "as 1 3 = 0", "as 1 5 = -6", "as 1 6 = 0");
        String[] lines = {"0......", "01.....", "0.2....", "0..3...", "01..4..", "0.2..5.", "0..3..6"};
        for (int kind = 0; kind <= 6; kind++) {
            String[] rows = new String[8];
            rows[0] = "matter " + kind + " 7";
            for (int k = 0; k <= 6; k++) {
                rows[1 + k] = "as 0 " + k + " = " + (lines[kind].charAt(k) == '.' ? -6 : 7);
            }
            e.edge("or one under that: its v", rows);
        }
    }

    private void image() {
        e.edge("THE IMAGE is taken: how many MATTERS there are.", "image = 0", "matter 0 0", "image = 1",
            "5 times matter 0 0", "image = 6", "undo = 6", "still matter 0 0 = FULL", "talk 0", "image = 6", "undo = 6",
            "told 0 = 1");
    }

    private void undo() {
        e.edge("All is as THE IMAGE: how many MATTERS. STATE: there is none.", "still undo = STATE", "matter 0 0",
            "still undo = STATE", "count 0 = 1", "image = 1", "still undo = 1", "matter 0 0", "undo = 1", "count 0 = 1",
            "matter 0 0", "undo = 1", "count 0 = 1", "talk 0", "image = 1", "talk 0", "talk 0", "undo = 1", "of 0 3 = 5",
            "told 0 = 1", "undo = 1");
    }

    /** What is changed behind THE IMAGE, a change or two an object, is back behind undo(). */
    private void undoneOnce() {
        String[][] changes = {{"feed 59"}, {"tape due 9"}, {"station"}, {"station", "tape cool 11"},
            {"text due 9;fade 2;warm 9 p=0"}, {"matter 6 3"}, {"row 0 0 9"}, {"row 0 3 9"}, {"tie 0 1 true"},
            {"tie 1 2 false"}, {"shelve 0 true"}, {"shelve 2 false"}, {"reopen 1"}, {"reopen 2"}, {"talk 0"}, {"talk -1"},
            {"pass 60"}, {"see 0 1 true"}, {"see -1 0 true"}, {"see -1 0 true", "see 2 20 false"},
            {"see -1 0 true", "see 1 1 false"}, {"see -1 0 true", "see 1 20 true"}, {"plan 1 1"}, {"plan -1 0"},
            {"plan -1 0", "plan 2 1"}, {"plan -1 0", "plan 1 2"}, {"book 0 9"}, {"book -1 0"}, {"book -1 0", "book 0 0"},
            {"book -1 0", "book 1 9"}};
        String[] before = {"matter 6 3", "matter 1 2", "matter 2 0", "row 0 0 4", "tie 1 2 true",
            "text due 6;fade 2;cool 1 v=2 = 0", "talk 0", "talk 2", "talk 2 = 5", "shelve 2 true", "tape fade 7",
            "see 1 20 false", "plan 1 1", "plan 1 1", "book 1 0", "image = 3", "undo = 3"};
        String[] behind = {"undo = 3", "still undo = 3", "count 0 = 3", "count 1 = 1", "count 2 = 1", "count 3 = 2",
            "count 4 = 1", "count 5 = 6", "told 0 = 3", "told 1 = 6", "told 2 = 2", "told 3 = 5", "told 4 = 5",
            "of 0 3 = 9", "of 0 2 = 0", "of 1 2 = 3", "of 1 8 = 4", "of 0 8 = 0", "of 2 3 = 10", "of 2 5 = 1",
            "of 0 5 = 0", "done 0 = 7", "done 1 = 6", "dues 0 = 6", "looked = -5", "row 0 0 0 = 4", "row 0 3 0 = 0",
            "station = 1", "told 2 = 7", "told 1 = 20"};
        for (String[] change : changes) {
            e.edge("All is as THE IMAGE: how many MATTERS.", Edges.joined(before, change, behind));
        }
    }

    private void count() {
        e.edge("0 MATTERS, 1 STATIONS, 2 of SEEN, 3 of the PLAN, 4 rows of BOOK, 5 signs of THE TAPE, 6 bodies that ran in the"
            + " latest act() (all, kept or not). NONE.",
            "still count -1 = NONE", "count 0 = 0", "count 6 = 0", "still count 7 = NONE", "still count LEAST = NONE",
            "still count MOST = NONE", "6 times matter 4 0", "text due 1", "text due 2", "text due 3", "text due 4",
            "text due 5", "5 times see 0 0 true", "8 times plan 0 0", "8 times book 0 0", "100 times feed 59", "act 5 2 0",
            "matter 0 0", "see 0 0 true", "plan 0 0", "book 0 0", "feed 59", "station", "count 0 = 6", "count 1 = 5",
            "count 2 = 5", "count 3 = 8", "count 4 = 8", "count 5 = 100", "count 6 = 7", "still count 7 = NONE",
            "still count -1 = NONE");
    }
}
