/** The edges that Terms 2 names of what is asked of evenings to come, of nets and of odds. */
final class EdgesOfAsked {
    private static final String TO_9998 = "166 times pass 60", TO_THE_END = "pass 39 = 9999";
    private final Edges e;

    EdgesOfAsked(Edges e) {
        this.e = e;
    }

    void run() {
        beyond();
        asNow();
        changesNothing();
        on();
        when();
        agenda();
        rowsOfAgenda();
        net();
        ring();
        loose();
        dues();
        firm();
        odds();
        mean();
    }

    private void beyond() {
        String sentence = "goes on from how all is (EVENINGS beyond 9999; AGE, COST not held, too)";
        e.edge(sentence, "matter 6 0", "row 0 0 1", "row 0 1 2", "row 0 3 4", "text due 99 = 0", TO_9998, TO_THE_END,
            "on 0 10 = 0", "on 1 10 = 9", "on 2 10 = 15", "on 3 10 = 22", "still on 60 0 = 1", "told 0 = 9999");
        e.edge(sentence, "matter 0 0", "text warm 90 a=0;due 99 = 0", TO_9998, TO_THE_END, "of 0 2 = 9999",
            "on 1 10 = 5", "on 1 0 = 0", "on 2 10 = 99", "on 2 0 = 1", "when 0 = 2", "of 0 2 = 9999");
        e.edge(sentence, "matter 0 0", "text warm 90 e=0;due 99 = 0", TO_9998, TO_THE_END,
            "reopen 0", "on 1 10 = 5", "on 2 10 = 99", "agenda 1 0 = 0", "agenda 2 0 = 1", "agenda 2 10 = 0");
        e.edge(sentence, "matter 4 0", TO_9998, TO_THE_END, "on 1 10 = 0", "on 2 10 = 2", "on 3 10 = 1");
        e.edge(sentence, "6 times matter 0 0", "text cool 9 p<9 = 0", TO_9998, TO_THE_END, "told 3 = 59994",
            "on 0 1 = 59994", "on 1 1 = 60000", "on 60 1 = 60354", "agenda 4 1 = 24", "told 3 = 59994",
            "8 times plan 0 0", "done 1 = 60042", "told 3 = 59994", "told 0 = 9999");
        e.edge("each EVENING with TALK of TOPIC as it is then",
            "2 times matter 0 0", "text warm 9 p=1&e=1;warm 1 e=2&p=1 = 0",
            "on 1 10 = 5", "on 2 10 = 4", "on 2 11 = 14", "on 3 11 = 20", "on 3 0 = 2", "on 4 10 = 8", "on 4 11 = 20");
    }

    private void asNow() {
        String sentence = "as it is then, and changes nothing. ON";
        // what each TEST looks at, and what each KIND adds, is there behind some EVENINGS, too
        e.edge(sentence, "matter 2 4", "matter 6 9", "row 1 1 9", "row 1 2 8", "text due 99;warm 9 k=6&v=9&p=1 = 0",
            "on 1 11 = 14", "on 2 11 = 37", "on 3 11 = 59", "firm 1 0 = 10", "on 3 10 = 0", "tie 1 0 true",
            "on 1 10 = 1", "on 1 11 = 0", "shelve 0 true", "on 1 10 = 0");
        e.edge(sentence, "2 times matter 3 0", "text due 5;fade 0;cool 2 n>0;warm 3 a=1&e=1 = 0", "tie 1 0 true",
            "on 1 0 = 1", "on 2 0 = 3", "on 2 11 = 9", "on 2 1 = 1");
    }

    /** Each call that asks alone, on an object that has some of all. */
    private void changesNothing() {
        String[] busy = {"matter 6 3", "matter 5 2", "matter 4 1", "row 0 1 7", "tie 0 2 true", "tie 2 0 true",
            "text due 12;fade 2;warm 3 v>1 = 0", "talk 1", "talk 1", "shelve 2 true", "see 1 2 true", "see 0 3 false",
            "plan 0 0", "plan 3 2", "book 1 20", "tape due 8", "act 2 2 5", "image", "talk 0", "tie 1 0 true", "reopen 1",
            "tape ;fade 1"};
        String[] asks = {"of 0 3", "of 1 7", "told 6", "told 7", "told 8", "on 0 0", "on 60 0", "on 60 1", "on 60 11",
            "when 0", "when 1", "agenda 1 0", "agenda 4 0", "agenda 4 1", "agenda 4 13", "net 0", "dues 0", "dues 1",
            "firm 1 0", "firm 0 1", "odds 1 60 0", "odds 0 0 1", "mean 0", "mean 1", "done 0", "done 1", "looked",
            "trace 0", "as 2 1", "count 6"};
        for (int i = 0; i < asks.length; i++) {
            asks[i] = "still " + asks[i];
        }
        e.edge("as it is then, and changes nothing", Edges.joined(busy, asks));
    }

    private void on() {
        e.edge("ON n EVENINGS (0 .. 60): which are SETTLED (bits); COST; TALKED of one",
            "matter 0 0", "text cool 4 p<9;due 60 = 0",
            "still on -1 0 = BAD", "on 0 0 = 0", "on 0 1 = 0", "on 0 10 = 0", "on 1 10 = 1", "on 1 1 = 1",
            "on 59 0 = 0", "on 59 1 = 59", "on 59 10 = 59", "on 60 0 = 1", "on 60 1 = 59", "on 60 10 = 60",
            "still on 61 0 = BAD", "still on 61 1 = BAD", "still on 61 10 = BAD",
            "still on LEAST 0 = BAD", "still on MOST 0 = BAD");
        e.edge("ON n EVENINGS (0 .. 60)", "on 60 0 = 0", "on 60 1 = 0", "still on 60 10 = NONE", "6 times matter 0 0",
            "text due 0 = 0", "talk 0 = 1", "talk 5 = 33", "on 0 0 = 33", "on 0 1 = 9", "on 3 0 = 47", "on 4 0 = 63",
            "on 60 0 = 63", "on 60 1 = 15");
    }

    private void when() {
        String sentence = "WHEN of one: the fewest EVENINGS (0 .. 60) behind which it is SETTLED (-5: not by then)";
        e.edge(sentence, "matter 0 0", "text cool 4 p<9;due 1 = 0", "when 0 = 1", "text cool 4 p<9;due 59 = 1",
            "when 0 = 59", "text cool 4 p<9;due 60 = 2", "when 0 = 60", "text cool 4 p<9;due 61 = 3", "when 0 = -5",
            "talk 0", "when 0 = 60", "talk 0", "when 0 = 59");
        e.edge(sentence, "2 times matter 0 0", "text due 0;cool 5 p=0 = 0", "when 0 = -5", "when 1 = 1",
            "talk 0 = 1", "when 0 = 0", "shelve 0 true", "when 0 = 0", "shelve 1 true", "when 1 = -5", "reopen 0",
            "when 0 = -5");
    }

    private void agenda() {
        e.edge("AGENDA of n EVENINGS (1 .. 4)",
            "matter 0 0", "still agenda 0 0 = BAD", "agenda 1 0 = 0", "agenda 3 0 = 0", "agenda 3 1 = 3",
            "agenda 4 0 = 1", "agenda 4 1 = 3", "agenda 4 13 = 0", "still agenda 5 0 = BAD", "still agenda -1 0 = BAD",
            "still agenda LEAST 0 = BAD", "still agenda MOST 0 = BAD", "text due 5 = 0", "agenda 1 0 = 1",
            "agenda 1 1 = 0", "agenda 1 10 = 0");
        e.edge("of all rows of TALK, one of MATTERS or none each",
            "agenda 1 0 = 0", "agenda 1 10 = 9", "agenda 4 0 = 0", "agenda 4 1 = 0", "agenda 4 10 = 9", "agenda 4 13 = 9",
            "matter 0 0", "agenda 4 10 = 0", "agenda 4 13 = 0", "shelve 0 true", "agenda 1 10 = 0", "agenda 1 1 = 0",
            "shelve 0 false", "text due 0", "talk 0 = 1", "agenda 1 10 = 0", "agenda 1 0 = 1");
        e.edge("how many are SETTLED then; how much more COST; the k-th",
            "6 times matter 0 0", "talk -1", "text due 0 = 0", "agenda 1 0 = 1", "agenda 1 1 = 5", "agenda 4 0 = 4",
            "agenda 4 1 = 14", "agenda 4 10 = 0", "agenda 4 11 = 1", "agenda 4 12 = 2", "agenda 4 13 = 3",
            "talk 0", "talk 2", "talk 5 = 37", "agenda 1 0 = 4", "agenda 1 10 = 1", "agenda 4 0 = 6", "agenda 4 1 = 3",
            "agenda 4 12 = 4", "agenda 4 13 = 0", "told 3 = 18");
    }

    private void rowsOfAgenda() {
        String most = "that by which most are SETTLED behind n, of these that by which COST is least";
        e.edge(most, "2 times matter 0 0", "text due 6;warm 1 p=1 = 0", "agenda 1 0 = 1", "agenda 1 1 = 1", "agenda 1 10 = 1",
            "agenda 2 0 = 1", "agenda 2 1 = 2", "agenda 2 10 = 1", "agenda 2 11 = 0", "agenda 3 0 = 2", "agenda 3 1 = 2",
            "agenda 3 10 = 1", "agenda 3 11 = 0", "agenda 3 12 = 0", "agenda 4 10 = 1", "agenda 4 13 = 0");
        // the dear one first: it alone can't be settled later
        e.edge(most, "2 times matter 0 0", "text due 6;warm 1 p=1;warm 20 p=0&e=0 = 0", "agenda 2 0 = 2", "agenda 2 1 = 1",
            "agenda 2 10 = 0", "agenda 2 11 = 1", "agenda 1 0 = 1", "agenda 1 10 = 0");
        // three by a longer way, more than the two of a cheaper one
        e.edge(most, "3 times matter 0 0", "tie 2 1 true", "text due 5 = 0", "agenda 3 0 = 3", "agenda 3 1 = 3",
            "agenda 3 10 = 0", "agenda 3 11 = 1", "agenda 3 12 = 2", "agenda 2 0 = 2", "agenda 2 11 = 1");
        String first = "(of several the first as a row of numbers, none being 9 there)";
        e.edge(first, "2 times matter 0 0", "text due 5 = 0", "agenda 1 10 = 0", "agenda 2 10 = 0", "agenda 2 11 = 1",
            "agenda 3 11 = 1", "agenda 3 12 = 0", "text due 99 = 1", "agenda 4 10 = 0", "agenda 4 11 = 0",
            "agenda 4 12 = 0", "agenda 4 13 = 0");
        // a talk of 0 is as good as one of none ahead of that of 1, and the lesser number
        e.edge(first, "2 times matter 0 0", "shelve 0 true", "text due 7;fade 0;warm 2 e=1 = 0", "agenda 2 0 = 1",
            "agenda 2 10 = 0", "agenda 2 11 = 1");
    }

    private void net() {
        String sentence = "NET of one: all that are not SETTLED on which it HANGS, or on which one of these HANGS,"
            + " and so on (bits; itself, if it is among them)";
        e.edge(sentence, "6 times matter 0 0", "net 0 = 0", "tie 5 4 true", "net 5 = 16", "tie 4 3 true", "tie 3 2 true",
            "tie 2 1 true", "tie 1 0 true", "net 5 = 31", "net 1 = 1", "net 0 = 0", "tie 0 5 true", "net 5 = 63",
            "net 0 = 63", "tie 3 2 false", "net 5 = 24", "net 2 = 59");
        e.edge(sentence, "6 times matter 0 0", "tie 0 1 true", "tie 1 2 true", "tie 2 3 true", "tie 3 4 true",
            "tie 4 5 true", "net 0 = 62", "net 4 = 32", "text due 0", "talk 5 = 32", "net 0 = 30", "net 4 = 0",
            "net 5 = 0", "tie 5 0 true", "net 5 = 31", "shelve 1 true", "net 0 = 30");
        e.edge(sentence, "2 times matter 0 0", "tie 0 1 true", "net 0 = 2", "net 1 = 0", "tie 1 0 true", "net 0 = 3",
            "net 1 = 3", "tie 0 1 false", "net 0 = 0", "net 1 = 1");
    }

    private void ring() {
        String sentence = "RING: those, as bits, in whose NET one is that is in its own NET";
        e.edge(sentence, "told 7 = 0", "6 times matter 0 0", "told 7 = 0", "tie 0 1 true", "told 7 = 0", "tie 1 0 true",
            "told 7 = 3", "tie 2 1 true", "told 7 = 7", "tie 3 2 true", "told 7 = 15", "tie 0 4 true", "told 7 = 15",
            "tie 4 5 true", "told 7 = 15", "tie 5 4 true", "told 7 = 63", "tie 1 0 false", "told 7 = 49",
            "tie 0 4 false", "told 7 = 48");
        e.edge(sentence, "6 times matter 0 0", "tie 0 1 true", "tie 1 2 true", "tie 2 3 true", "tie 3 4 true",
            "tie 4 5 true", "told 7 = 0", "tie 5 0 true", "told 7 = 63", "tie 3 4 false", "told 7 = 0");
        e.edge(sentence, "3 times matter 0 0", "text due 0", "talk 1 = 2", "talk 2 = 6", "tie 0 1 true", "tie 1 0 true",
            "told 7 = 0", "reopen 1", "told 7 = 3", "tie 2 0 true", "told 7 = 7", "tie 0 2 true", "told 7 = 7",
            "tie 0 1 false", "told 7 = 0");
    }

    private void loose() {
        String sentence = "LOOSE: by how few TIES being dropped of those between MATTERS that are not SETTLED no RING is left";
        e.edge(sentence, "told 8 = 0", "6 times matter 0 0", "told 8 = 0", "tie 0 1 true", "tie 1 2 true", "told 8 = 0",
            "tie 2 0 true", "told 8 = 1", "tie 1 0 true", "told 8 = 1", "tie 0 2 true", "told 8 = 2", "tie 2 1 true",
            "told 8 = 3", "tie 3 0 true", "tie 3 1 true", "tie 2 3 true",
            "told 8 = 3", "tie 1 3 true", "told 8 = 4");
        e.edge(sentence, "6 times matter 0 0", "tie 0 1 true", "tie 1 2 true", "tie 2 3 true", "tie 3 4 true",
            "tie 4 5 true", "told 8 = 0", "tie 5 0 true", "told 8 = 1", "tie 5 4 true", "told 8 = 1", "tie 1 0 true",
            "told 8 = 2");
        e.edge(sentence, "2 times matter 0 0", "text due 0", "talk 1 = 2", "tie 0 1 true", "tie 1 0 true", "told 8 = 0",
            "reopen 1", "told 8 = 1", "shelve 1 true", "told 8 = 1");
        String[] all = new String[32];
        all[0] = "6 times matter 0 0";
        int at = 1;
        for (int i = 0; i < 6; i++) {
            for (int j = 0; j < 6; j++) {
                if (i != j) {
                    all[at++] = "tie " + i + " " + j + " true = 0";
                }
            }
        }
        all[at] = "told 8 = 15";
        e.edge(sentence, all);
    }

    private void dues() {
        String sentence = "DUES: how many numbers (1 .. 60) there are by which, were DUE that from now on, all of SEEN is so;"
            + " the least (-5: none)";
        e.edge(sentence, "dues 0 = 60", "dues 1 = 1", "matter 0 0", "see 0 0 false", "dues 0 = 60", "dues 1 = 1",
            "see 0 0 true", "dues 0 = 0", "dues 1 = -5");
        e.edge(sentence, "matter 0 0", "see 0 1 false", "text warm 54 p=0 = 0", "dues 0 = 1", "dues 1 = 60",
            "text warm 53 p=0 = 1", "dues 0 = 2", "dues 1 = 59", "text warm 55 p=0 = 2", "dues 0 = 0", "dues 1 = -5",
            "text due 99;cool 5 p=0 = 3", "dues 0 = 60", "dues 1 = 1", "told 1 = 99");
        e.edge(sentence, "matter 0 0", "see 0 1 true", "text cool 4 p=0;due 0 = 0", "dues 0 = 1", "dues 1 = 1",
            "text cool 5 p=0;due 0 = 1", "dues 0 = 0", "dues 1 = -5", "text warm 54 p=0;due 0 = 2", "dues 0 = 59",
            "dues 1 = 1", "text warm 55 p=0;due 0 = 3", "dues 0 = 60", "text warm 56 p=0;due 0 = 4", "dues 0 = 60");
    }

    private void firm() {
        String sentence = "FIRM of one: how many numbers v (0 .. 9) there are by which, were that its v, all of SEEN is so;"
            + " the least (-5: none)";
        e.edge(sentence, "matter 0 5", "firm 0 0 = 10", "firm 0 1 = 0", "see 0 1 true", "firm 0 0 = 0", "firm 0 1 = -5",
            "text due 10;warm 5 v<1 = 0", "firm 0 0 = 1", "firm 0 1 = 0", "text due 10;warm 5 v>8 = 1", "firm 0 0 = 1",
            "firm 0 1 = 9", "text due 10;warm 5 v>9 = 2", "firm 0 0 = 0", "firm 0 1 = -5", "text due 10;warm 5 v>0 = 3",
            "firm 0 0 = 9", "firm 0 1 = 1", "text due 10;warm 5 v<9 = 4", "firm 0 0 = 9", "firm 0 1 = 0", "of 0 1 = 5");
        e.edge(sentence, "matter 2 0", "matter 0 0", "see 0 1 true", "text due 4;cool 5 p=1 = 0", "firm 0 0 = 2",
            "firm 0 1 = 0", "firm 1 0 = 10", "see 0 2 true", "see 0 0 false", "firm 0 0 = 2", "see 0 0 true",
            "firm 0 0 = 0", "firm 1 1 = -5");
    }

    private void odds() {
        String sentence = "if DUE is any of 1 .. 30 from now on, each alike likely: how likely it is SETTLED behind n:"
            + " a fraction in lowest terms";
        e.edge(sentence, "matter 0 0", "text cool 5 p=0;due 0 = 0", "odds 0 1 0 = 0", "odds 0 1 1 = 1", "odds 0 60 0 = 0",
            "text cool 4 p=0;due 99 = 1", "odds 0 1 0 = 1", "odds 0 1 1 = 30", "odds 0 2 0 = 1", "odds 0 2 1 = 15",
            "odds 0 7 0 = 7", "odds 0 7 1 = 30", "odds 0 29 0 = 29", "odds 0 29 1 = 30", "odds 0 30 0 = 1",
            "odds 0 30 1 = 1", "text warm 23 p=0 = 2", "odds 0 1 0 = 14", "odds 0 1 1 = 15", "text warm 24 p=0 = 3",
            "odds 0 1 0 = 29", "odds 0 1 1 = 30", "text warm 25 p=0 = 4", "odds 0 1 0 = 1", "odds 0 1 1 = 1");
        e.edge("ODDS of one and n EVENINGS (0 .. 60)",
            "2 times matter 0 0", "text cool 4 p<9;fade 99 = 0", "odds 1 0 0 = 0", "odds 1 0 1 = 1", "odds 1 1 0 = 0",
            "odds 1 2 0 = 1", "odds 1 2 1 = 30", "odds 1 57 0 = 14", "odds 1 57 1 = 15", "odds 1 59 0 = 29",
            "odds 1 59 1 = 30", "odds 1 60 0 = 1", "odds 1 60 1 = 1", "still odds 1 61 0 = NO", "still odds 1 -1 0 = NO",
            "still odds 1 LEAST 1 = NO", "still odds 1 MOST 1 = NO", "text due 0 = 1", "talk 1 = 2", "odds 1 0 0 = 1",
            "odds 1 0 1 = 1", "told 1 = 0");
    }

    private void mean() {
        e.edge("MEAN: TALKED of all that are OPEN, together, by how many they are: a fraction in lowest terms"
            + " (NO: there are none)",
            "mean 0 = NO", "mean 1 = NO", "matter 0 0", "mean 0 = 0", "mean 1 = 1", "talk 0", "mean 0 = 5", "mean 1 = 1",
            "5 times matter 0 0", "mean 0 = 5", "mean 1 = 6", "text fade 0 = 0", "talk 1", "mean 0 = 5", "mean 1 = 3",
            "talk 2", "talk 3", "talk 4", "talk 5", "mean 0 = 5", "mean 1 = 1", "shelve 5 true", "mean 0 = 5",
            "text due 0;fade 0;cool 5 p=4 = 1", "talk 4 = 16", "mean 0 = 5", "mean 1 = 1", "talk 0 = 17", "talk 1 = 19",
            "talk 2 = 23", "mean 0 = 5", "talk 3 = 31", "mean 0 = NO", "mean 1 = NO", "shelve 5 false", "mean 0 = 5");
        e.edge("together, by how many they are",
            "6 times matter 0 0", "text due 99;warm 93 p<9;fade 0 = 0", "talk 0", "talk 1", "talk 2", "talk 3", "talk 4",
            "talk 5 = 0", "mean 0 = 98", "mean 1 = 1", "text due 99;fade 1 = 1", "talk -1", "mean 0 = 97", "shelve 0 true",
            "talk -1", "shelve 0 false", "mean 0 = 577", "mean 1 = 6");
    }
}
