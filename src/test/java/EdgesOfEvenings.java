/** The edges that Terms 1 names of an EVENING and of TOPIC. */
final class EdgesOfEvenings {
    private final Edges e;

    EdgesOfEvenings(Edges e) {
        this.e = e;
    }

    void run() {
        more();
        settled();
        fades();
        others();
        ages();
        costs();
        topic();
    }

    private void more() {
        String sentence = "if that is READY, its TALKED is STIR more (if above 0; 99 at most)";
        e.edge(sentence, "matter 0 0", "text cool 4 p=0;due 99 = 0", "talk 0", "of 0 3 = 1", "talk 0", "of 0 3 = 2",
            "text cool 5 p=0;due 99 = 1", "talk 0", "of 0 3 = 2", "text cool 6 p=0;due 99 = 2", "talk 0", "of 0 3 = 2",
            "text cool 99 p=0;due 99 = 3", "talk 0 = 0", "of 0 3 = 2", "told 0 = 5");
        e.edge(sentence, "matter 0 0", "text warm 93 p=0;due 99 = 0", "talk 0 = 0", "of 0 3 = 98",
            "text cool 4 p=0;due 99 = 1", "talk 0 = 1", "of 0 3 = 99");
        e.edge(sentence, "matter 0 0", "text warm 93 p=0;due 99 = 0", "talk 0 = 0", "of 0 3 = 98",
            "text cool 3 p=0;due 99 = 1", "talk 0 = 1", "of 0 3 = 99");
        e.edge(sentence, "matter 0 0", "text warm 94 p=0;due 99 = 0", "talk 0 = 1", "of 0 3 = 99");
        e.edge(sentence, "matter 0 0", "text warm 95 p=0;due 99 = 0", "talk 0 = 1", "of 0 3 = 99");
        e.edge(sentence, "matter 0 0", "text " + "warm 99 p=0;".repeat(7) + "due 99 = 0", "talk 0 = 1", "of 0 3 = 99");
        e.edge("by how all is ahead of it", "matter 4 0", "matter 3 0", "text due 5;warm 10 e=1&p=1 = 0",
            "talk 0 = 1", "of 0 3 = 5", "talk 1 = 3", "of 1 3 = 16");
        e.edge("by how all is ahead of it", "matter 0 0", "matter 0 0", "tie 1 0 true", "text due 5;fade 2 = 0",
            "talk 0 = 1", "of 1 6 = 1", "of 1 3 = 0", "talk 1 = 3");
    }

    private void settled() {
        String sentence = "it is SETTLED, if TALKED is DUE or more then";
        e.edge(sentence, "matter 0 0", "text due 6 = 0", "talk 0 = 0", "of 0 4 = 0", "talk 0 = 1", "of 0 3 = 10");
        e.edge(sentence, "matter 0 0", "text due 5 = 0", "talk 0 = 1", "of 0 4 = 1");
        e.edge(sentence, "matter 0 0", "text due 4 = 0", "talk 0 = 1");
        e.edge(sentence, "matter 0 0", "text due 0;cool 5 p=0 = 0", "talk -1 = 0", "talk 0 = 1", "of 0 3 = 0");
        e.edge(sentence, "matter 0 0", "text due 0;cool 6 p=0 = 0", "talk 0 = 1", "of 0 3 = 0");
        e.edge(sentence, "matter 0 0", "text due 1;cool 5 p=0 = 0", "talk 0 = 0");
        e.edge(sentence, "2 times matter 0 0", "talk 0 = 0", "text due 4;cool 5 p=0;fade 0 = 0", "talk -1 = 0",
            "talk 1 = 2", "of 0 4 = 0", "talk 0 = 3", "of 0 3 = 5");
    }

    private void fades() {
        String sentence = "is FADE less (0 at least)";
        e.edge(sentence, "matter 0 0", "talk 0", "text fade 4 = 0", "talk -1", "of 0 3 = 1");
        e.edge(sentence, "matter 0 0", "talk 0", "text fade 5 = 0", "talk -1", "of 0 3 = 0");
        e.edge(sentence, "matter 0 0", "talk 0", "text fade 6 = 0", "talk -1", "of 0 3 = 0");
        e.edge(sentence, "matter 0 0", "talk 0", "text fade 99 = 0", "talk -1", "of 0 3 = 0", "talk -1", "of 0 3 = 0");
        e.edge(sentence, "matter 0 0", "talk 0", "text fade 0 = 0", "talk -1", "of 0 3 = 5", "pass 60", "of 0 3 = 5");
    }

    private void others() {
        e.edge("TALKED of each other one that is OPEN (also of that, if it is not READY)",
            "4 times matter 0 0", "text due 99;warm 15 p<9;fade 0 = 0", "talk 0", "talk 1", "talk 2", "talk 3",
            "of 0 3 = 20", "of 3 3 = 20", "text fade 3;due 20;cool 5 p<9 = 1", "talk 3 = 8", "of 3 3 = 20",
            "shelve 2 true", "tie 1 0 true", "of 0 3 = 17", "of 1 3 = 17", "of 2 3 = 17",
            "talk 1 = 8", "of 0 3 = 14", "of 1 3 = 14", "of 2 3 = 17", "of 3 3 = 20",
            "talk 2 = 8", "of 0 3 = 11", "of 2 3 = 17", "talk 3 = 8", "of 0 3 = 8", "of 3 3 = 20",
            "talk 0 = 8", "of 0 3 = 8", "of 1 3 = 5", "talk -1 = 8", "of 0 3 = 5", "of 1 3 = 2", "talk 1 = 8",
            "of 0 3 = 2", "of 1 3 = 0", "of 2 3 = 17", "of 3 3 = 20");
    }

    private void ages() {
        e.edge("AGE of each that is not SETTLED then is 1 more (9999 at most; SHELVED ones, too)",
            "3 times matter 0 0", "shelve 2 true", "text due 10 = 0", "talk 0 = 0",
            "of 0 2 = 1", "of 1 2 = 1", "of 2 2 = 1", "talk 0 = 1", "of 0 2 = 1", "of 1 2 = 2", "of 2 2 = 2",
            "talk 0 = 1", "of 0 2 = 1", "shelve 0 true", "talk -1", "of 0 2 = 1", "of 1 2 = 4", "of 2 2 = 4",
            "reopen 0", "of 0 2 = 0", "talk -1", "of 0 2 = 1");
        e.edge("1 more (9999 at most; SHELVED ones",
            "2 times matter 0 0", "shelve 1 true", "166 times pass 60", "pass 39 = 9999",
            "of 0 2 = 9999", "of 1 2 = 9999", "pass 1 = STATE", "of 0 2 = 9999", "of 1 2 = 9999");
    }

    private void costs() {
        e.edge("COST is as many more as are OPEN then (999999 at most)",
            "talk -1", "told 3 = 0", "matter 0 0", "talk -1", "told 3 = 1", "5 times matter 0 0",
            "talk -1", "told 3 = 7", "text due 0", "talk 0 = 1", "told 3 = 12", "shelve 5 true", "talk -1",
            "told 3 = 16", "talk 1 = 3", "told 3 = 19", "talk 2", "talk 3", "talk 4 = 31", "told 3 = 22",
            "talk -1", "told 3 = 22", "shelve 5 false", "talk -1", "told 3 = 23");
        e.edge("EVENING is 1 more", "talk -1", "told 0 = 1", "pass 0", "told 0 = 1", "matter 0 0", "talk 0",
            "told 0 = 2", "still talk 1 = NONE", "told 0 = 2");
    }

    private void topic() {
        String sentence = "TOPIC: of READY ones that whose STIR is greatest, if above 0 (of several the first);"
            + " none, if there is none";
        e.edge(sentence, "told 6 = -5", "matter 0 0", "told 6 = 0", "text cool 4 p<9 = 0", "told 6 = 0",
            "text cool 5 p<9 = 1", "told 6 = -5", "text cool 6 p<9 = 2", "told 6 = -5");
        e.edge(sentence, "6 times matter 0 0", "told 6 = 0", "text warm 1 p=5 = 0", "told 6 = 5",
            "text warm 1 p>3 = 1", "told 6 = 4", "text cool 1 p<5 = 2", "told 6 = 5", "shelve 5 true",
            "told 6 = 0", "tie 0 5 true", "told 6 = 1", "shelve 5 false", "told 6 = 5", "text due 0 = 3", "told 6 = 1",
            "talk 5 = 32", "told 6 = 0");
        e.edge(sentence, "2 times matter 0 0", "tie 0 1 true", "tie 1 0 true", "told 6 = -5");
        e.edge(sentence, "matter 0 0", "shelve 0 true", "told 6 = -5", "shelve 0 false", "text due 0", "told 6 = 0",
            "talk 0 = 1", "told 6 = -5");
        e.edge(sentence, "matter 2 5", "matter 2 4", "told 6 = 1", "matter 2 3", "told 6 = 2", "shelve 2 true",
            "shelve 1 true", "told 6 = -5");
    }
}
