/** The edges that Terms 1 names of MATTERS, and of how they STIR. */
final class EdgesOfMatters {
    private final Edges e;

    EdgesOfMatters(Edges e) {
        this.e = e;
    }

    void run() {
        use();
        numbers();
        held();
        atFirst();
        openAndReady();
        stirOfMarriages();
        stirOfBoundaries();
        stirOfLoans();
        stirBelow();
    }

    private void use() {
        e.edge("An object is used for at most 512 calls after it has been made",
            "matter 0 7 = 0", "510 times talk -1 = 0", "told 0 = 510");
    }

    private void numbers() {
        e.edge("MATTERS are numbered from 0 on, 6 at most",
            "count 0 = 0", "of 0 0 = -999999",
            "matter 0 0 = 0", "of 0 0 = 0", "of 1 0 = -999999",
            "matter 1 1 = 1", "matter 2 2 = 2", "matter 3 3 = 3", "matter 4 4 = 4", "count 0 = 5",
            "of 5 0 = -999999", "matter 5 5 = 5", "of 5 0 = 5", "of 6 0 = -999999",
            "still matter 6 6 = FULL", "count 0 = 6", "of 0 0 = 0", "of 5 1 = 5");
        e.edge("each of a KIND: 0 MATTER; 1 MARRIAGE, 2 BOUNDARY, 3 LOAN under MATTER; 4 POSSIBLE under MARRIAGE;"
            + " 5 FRONTIER under BOUNDARY; 6 TOLD under LOAN",
            "still matter -1 0 = NONE", "matter 0 0 = 0", "of 0 0 = 0",
            "matter 6 0 = 1", "of 1 0 = 6", "still matter 7 0 = NONE",
            "still matter LEAST 0 = NONE", "still matter MOST 0 = NONE", "count 0 = 2");
        e.edge("a number v (0 .. 9), AGE",
            "still matter 0 -1 = BAD", "matter 0 0 = 0", "of 0 1 = 0",
            "matter 0 9 = 1", "of 1 1 = 9", "still matter 0 10 = BAD",
            "still matter 0 LEAST = BAD", "still matter 0 MOST = BAD", "count 0 = 2");
        e.edge("TOLD ones a ROW of four numbers (0 .. 9; 0 at first)",
            "matter 6 0", "row 0 0 9 = 0", "row 0 1 9 = 0", "row 0 2 9 = 0", "row 0 3 9 = 0",
            "still row 0 4 9 = NONE", "still row 0 -1 9 = NONE",
            "still row 0 0 10 = BAD", "still row 0 3 -1 = BAD",
            "row 0 0 0 = 9", "row 0 3 0 = 9", "row 0 3 1 = 0", "row 0 1 8 = 9", "row 0 2 8 = 9");
    }

    private void held() {
        e.edge("AGE (0 .. 9999; 0 at first)",
            "matter 0 0", "of 0 2 = 0", "talk -1", "of 0 2 = 1",
            "166 times pass 60", "pass 37 = 9998", "of 0 2 = 9998",
            "talk -1 = 0", "of 0 2 = 9999", "still talk -1 = STATE", "still pass 1 = STATE", "of 0 2 = 9999",
            "reopen 0 = 0", "of 0 2 = 0");
        e.edge("TALKED (0 .. 99; 0 at first)",
            "matter 0 0", "of 0 3 = 0", "talk 0", "of 0 3 = 5", "pass 4", "of 0 3 = 1",
            "pass 1", "of 0 3 = 0", "pass 1", "of 0 3 = 0",
            "text due 99;warm 93 p=0 = 0", "talk 0 = 0", "of 0 3 = 98", "talk 0 = 1", "of 0 3 = 99",
            "talk 0 = 1", "of 0 3 = 99");
        e.edge("COST (0 .. 999999; 0 at first)",
            "told 3 = 0", "6 times matter 0 0", "told 3 = 0", "talk -1", "told 3 = 6",
            "166 times pass 60", "pass 38 = 9999", "told 3 = 59994", "talk -1 = STATE", "told 3 = 59994");
    }

    private void atFirst() {
        e.edge("SETTLED, or not (not at first)",
            "matter 0 0", "of 0 4 = 0", "told 4 = 0", "text due 0", "of 0 4 = 0", "talk 0 = 1", "of 0 4 = 1",
            "matter 0 0", "of 1 4 = 0", "told 4 = 1");
        e.edge("SHELVED, or not (not at first)",
            "matter 0 0", "of 0 5 = 0", "shelve 0 true = 0", "of 0 5 = 1", "matter 0 0", "of 1 5 = 0",
            "of 0 5 = 1", "shelve 0 false = 1", "of 0 5 = 0");
        e.edge("TIES: that one HANGS on another one (none at first)",
            "6 times matter 0 0", "of 0 8 = 0", "of 5 8 = 0",
            "tie 0 1 true = 0", "tie 0 2 true = 0", "tie 0 3 true = 0", "tie 0 4 true = 0", "tie 0 5 true = 0",
            "of 0 8 = 62", "of 1 8 = 0", "still tie 0 0 true = BAD", "tie 5 0 true = 0", "of 5 8 = 1");
        e.edge("EVENING: 0 at first",
            "told 0 = 0", "matter 0 0", "told 0 = 0", "talk -1", "told 0 = 1");
    }

    private void openAndReady() {
        e.edge("OPEN are those that are neither SETTLED nor SHELVED",
            "4 times matter 0 0", "talk -1", "told 3 = 4",
            "text due 0", "talk 1 = 2", "told 3 = 7", "talk 3 = 10", "told 3 = 9",
            "shelve 2 true", "talk -1", "told 3 = 10", "shelve 3 true", "talk -1", "told 3 = 11",
            "reopen 3", "talk -1", "told 3 = 12", "shelve 3 false", "talk -1", "told 3 = 14",
            "shelve 0 true", "shelve 3 true", "talk -1", "told 3 = 14", "mean 0 = NO");
        e.edge("READY is one that is OPEN and HANGS on none that is not SETTLED",
            "told 5 = 0", "3 times matter 0 0", "told 5 = 7",
            "tie 0 1 true", "of 0 6 = 0", "tie 0 2 true", "told 5 = 6", "text due 0",
            "talk 1 = 2", "of 0 6 = 0", "told 5 = 4", "talk 2 = 6", "of 0 6 = 1", "told 5 = 1",
            "shelve 0 true", "of 0 6 = 0", "told 5 = 0", "shelve 0 false", "told 5 = 1",
            "shelve 1 true", "told 5 = 1", "reopen 1", "told 5 = 0", "shelve 1 false", "told 5 = 2",
            "talk 1 = 6", "talk 0 = 7", "of 0 6 = 0", "told 5 = 0");
    }

    private void stirOfMarriages() {
        e.edge("MARRIAGE: SUM; the half (cut toward 0) of that, if AGE is 10 or more",
            "matter 1 0", "pass 9", "of 0 2 = 9", "of 0 7 = 5", "pass 1", "of 0 2 = 10", "of 0 7 = 2",
            "text cool 3 p=0", "of 0 7 = 1", "text cool 4 p=0", "of 0 7 = 0", "text cool 6 p=0", "of 0 7 = 0",
            "text cool 7 p=0", "of 0 7 = -1", "text cool 8 p=0", "of 0 7 = -1", "reopen 0", "of 0 7 = -3");
        e.edge("MARRIAGE: SUM; the half (cut toward 0) of that, if AGE is 10 or more. BOUNDARY",
            "matter 0 0", "matter 2 0", "matter 3 0", "pass 10", "of 0 7 = 5", "of 1 7 = 5", "of 2 7 = 5");
        e.edge("POSSIBLE: as MARRIAGE; 0, if EVENING is odd",
            "matter 4 0", "of 0 7 = 5", "pass 1", "of 0 7 = 0", "pass 1", "of 0 7 = 5", "pass 6",
            "told 0 = 8", "of 0 7 = 5", "pass 1", "of 0 7 = 0", "pass 1", "told 0 = 10", "of 0 7 = 2",
            "pass 1", "of 0 7 = 0", "text cool 99 p=0", "of 0 7 = 0", "pass 1", "of 0 7 = -47",
            "reopen 0", "of 0 7 = -94");
    }

    private void stirOfBoundaries() {
        e.edge("BOUNDARY: SUM, less v",
            "matter 2 0", "matter 2 5", "matter 2 9", "of 0 7 = 5", "of 1 7 = 0", "of 2 7 = -4",
            "tie 2 0 true", "of 2 7 = -4");
        e.edge("FRONTIER: as BOUNDARY; twice that, if it HANGS on none at all",
            "matter 5 2", "2 times matter 0 0", "of 0 7 = 6", "tie 0 1 true", "of 0 7 = 3",
            "tie 0 2 true", "tie 0 1 false", "of 0 7 = 3", "text due 0", "talk 2 = 4", "of 0 7 = 3",
            "tie 0 2 false", "of 0 7 = 6", "tie 1 0 true", "of 0 7 = 6",
            "text cool 4 p=0", "of 0 7 = -2", "tie 0 1 true", "of 0 7 = -1");
    }

    private void stirOfLoans() {
        e.edge("LOAN: SUM, and how many others are SETTLED",
            "matter 3 0", "5 times matter 0 0", "text due 0", "of 0 7 = 5", "talk 1", "of 0 7 = 6",
            "shelve 1 true", "of 0 7 = 6", "talk 2", "talk 3", "talk 4", "of 0 7 = 9", "talk 5 = 62",
            "of 0 7 = 10", "talk 0 = 63", "of 0 7 = 10", "reopen 5", "of 0 7 = 9");
        e.edge("TOLD: as LOAN, and its ROW at EVENING modulo 4 more",
            "matter 6 0", "matter 0 0", "row 0 0 9", "row 0 1 1", "row 0 2 2", "row 0 3 3",
            "of 0 7 = 14", "pass 1", "of 0 7 = 6", "pass 1", "of 0 7 = 7", "pass 1", "of 0 7 = 8",
            "pass 1", "of 0 7 = 14", "pass 3", "of 0 7 = 8", "pass 1", "of 0 7 = 14",
            "text due 0", "talk 1 = 2", "of 0 7 = 7", "talk 0", "of 0 7 = 8");
        e.edge("its ROW at EVENING modulo 4 more",
            "matter 6 0", "row 0 3 9", "row 0 0 4", "166 times pass 60", "pass 36 = 9996", "of 0 7 = 9",
            "pass 3", "of 0 7 = 14");
    }

    private void stirBelow() {
        int[] stirs = {-94, -94, -103, -93, -94, -206, -87};
        for (int kind = 0; kind <= 6; kind++) {
            String row = kind == 6 ? "row 1 2 6 = 0" : "row 1 2 6 = STATE";
            e.edge("STIR of these (may be below 0)", "matter 0 0", "matter " + kind + " 9", row, "text due 0", "talk 0 = 1",
                "talk -1", "text cool 99 p=1 = 1", "of 1 7 = " + stirs[kind], "told 6 = -5");
        }
    }
}
