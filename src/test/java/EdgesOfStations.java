/** The edges that Terms 1 names of STATIONS: their texts, their FAULTS, what holds by them. */
final class EdgesOfStations {
    private final Edges e;

    EdgesOfStations(Edges e) {
        this.e = e;
    }

    void run() {
        tape();
        clauses();
        blanks();
        numbersOfClauses();
        numbersOfTests();
        words();
        chains();
        tests();
        wraps();
        open();
        openAgain();
        faults();
        many();
        without();
        sums();
    }

    /** Each text is read by a new object; a place below 0: it is a STATION. */
    private void reads(String sentence, String text, int place) {
        e.edge(sentence, "text " + text + " = " + (place < 0 ? 0 : -10 - place),
            "count 1 = " + (place < 0 ? 1 : 0), "count 5 = 0");
    }

    /** What the first of MATTERS, whose v is 4, STIRS by a text. */
    private void stirs(String sentence, String text, int stir) {
        e.edge(sentence, "matter 0 4", "text " + text + " = 0", "of 0 7 = " + stir);
    }

    private void tape() {
        String hundred = "warm 10 " + "p=1|".repeat(21) + "p=10|p=0";
        String sentence = "A STATION is read from THE TAPE (bytes, 100 at most)";
        e.edge(sentence, "tape " + hundred.substring(0, 97) + " = 97", "tape p= = 99",
            "tape 0 = 100", "still feed 59 = FULL", "matter 0 0", "station = 0", "of 0 7 = 15", "feed 59 = 1");
        e.edge(sentence, "tape " + hundred.substring(0, 99) + " = 99", "station = -109");
        e.edge(sentence, "tape " + hundred.substring(0, 99) + "; = 100", "station = -109");
        e.edge(sentence, "tape warm 10 " + "p=1|".repeat(23) + " = 100", "feed 112 = FULL", "station = -110");
    }

    private void clauses() {
        String sentence = "CLAUSES, 10 at most, with ; between";
        String nine = "due 1;due 2;due 3;due 4;due 5;due 6;due 7;due 8;due 9";
        e.edge(sentence, "text " + nine + " = 0", "told 1 = 9");
        e.edge(sentence, "text " + nine + ";due 10 = 0", "told 1 = 10");
        e.edge(sentence, "text " + nine + ";due 10;due 11 = -70", "told 1 = 20");
        reads(sentence, nine + ";due 10;", 60);
        reads(sentence, nine + ";", 54);
        e.edge(sentence, "matter 0 0", "text " + "warm 1 p=0;".repeat(8) + "due 1;fade 3 = 0",
            "of 0 7 = 13", "told 1 = 1", "told 2 = 3");
        e.edge(sentence, "matter 0 0", "text " + "warm 1 p=0;".repeat(8) + "warm 1 p=0 = 0", "of 0 7 = 14");
        reads(sentence, "due 1", -1);
        reads(sentence, "", 0);
        reads(sentence, ";", 0);
        reads(sentence, ";due 1", 0);
        reads(sentence, "due 1;", 6);
        reads(sentence, "due 1;;due 1", 6);
        reads(sentence, "due 1,due 1", 5);
        reads(sentence, "due 1due 1", 5);
    }

    private void blanks() {
        String sentence = "one blank ahead of each part behind the word";
        reads(sentence, "due 1", -1);
        reads(sentence, "due1", 3);
        reads(sentence, "due  1", 4);
        reads(sentence, " due 1", 0);
        reads(sentence, "due 1 ", 5);
        reads(sentence, "due 1; due 1", 6);
        reads(sentence, "due 1 ;due 1", 5);
        reads(sentence, "warm 1 p=0", -1);
        reads(sentence, "warm1 p=0", 4);
        reads(sentence, "warm  1 p=0", 5);
        reads(sentence, "warm 1p=0", 6);
        reads(sentence, "warm 1  p=0", 7);
        reads(sentence, "cool 1 p =0", 8);
        reads(sentence, "cool 1 p= 0", 9);
        reads(sentence, "cool 1 p=0 ", 10);
        reads(sentence, "cool 1 p=0 |p=1", 10);
        reads(sentence, "cool 1 ( p=0)", 8);
        reads(sentence, "cool 1 ! p=0", 8);
        e.edge(sentence, "tape due", "feed 9", "tape 1", "station = -13");
    }

    private void numbersOfClauses() {
        String sentence = "n 1 or 2 digits, no 0 ahead of another";
        for (String word : new String[] {"due", "fade", "warm", "cool"}) {
            String rest = word.equals("warm") || word.equals("cool") ? " p=0" : "";
            int at = word.length() + 1;
            reads(sentence, word + " " + rest, at);
            reads(sentence, word + " x" + rest, at);
            reads(sentence, word + " 0" + rest, -1);
            reads(sentence, word + " 9" + rest, -1);
            reads(sentence, word + " 10" + rest, -1);
            reads(sentence, word + " 99" + rest, -1);
            reads(sentence, word + " 100" + rest, at + 2);
            reads(sentence, word + " 00" + rest, at + 1);
            reads(sentence, word + " 05" + rest, at + 1);
            reads(sentence, word + " -1" + rest, at);
            reads(sentence, word + " /" + rest, at);
            reads(sentence, word + " :" + rest, at);
            reads(sentence, word + " 1/" + rest, at + 1);
            reads(sentence, word + " 1:" + rest, at + 1);
        }
        e.edge(sentence, "matter 0 0", "text due 0;fade 0;warm 0 p=0 = 0", "told 1 = 0", "told 2 = 0", "of 0 7 = 5",
            "text due 9;fade 9;warm 9 p=0 = 1", "told 1 = 9", "told 2 = 9", "of 0 7 = 14",
            "text due 10;fade 10;cool 10 p=0 = 2", "told 1 = 10", "told 2 = 10", "of 0 7 = -5",
            "text due 99;fade 99;cool 99 p=0 = 3", "told 1 = 99", "told 2 = 99", "of 0 7 = -94",
            "text due 90;fade 49;warm 50 p=0 = 4", "told 1 = 90", "told 2 = 49", "of 0 7 = 55");
    }

    private void numbersOfTests() {
        String sentence = "a number likewise: of one of MATTERS";
        reads(sentence, "warm 1 p=", 9);
        reads(sentence, "warm 1 p=;", 9);
        reads(sentence, "warm 1 p=p", 9);
        reads(sentence, "warm 1 p=-1", 9);
        reads(sentence, "warm 1 p=100", 11);
        reads(sentence, "warm 1 p=00", 10);
        reads(sentence, "warm 1 p=09", 10);
        stirs(sentence, "warm 1 v<99&v>0&v<10&v<90", 6);
        stirs(sentence, "warm 1 p<0", 5);
        stirs(sentence, "warm 1 v=99", 5);
        stirs(sentence, "warm 1 v=49", 5);
        stirs(sentence, "warm 1 v=14", 5);
        stirs(sentence, "warm 1 v>10", 5);
    }

    private void words() {
        String sentence = "due n; fade n; warm n E; cool n E";
        for (String word : new String[] {"due", "fade", "warm", "cool"}) {
            for (int i = 0; i < word.length(); i++) {
                reads(sentence, word.substring(0, i) + (char) (word.charAt(i) - 32) + word.substring(i + 1) + " 1", i);
                reads(sentence, word.substring(0, i), i);
            }
            for (int i = 1; i < word.length(); i++) {
                reads(sentence, word.substring(0, i) + " 1 p=0", i);
            }
            reads(sentence, word + "s 1", word.length());
        }
        reads(sentence, "due 1 p=0", 5);
        reads(sentence, "fade 1 p=0", 6);
        reads(sentence, "warm 1", 6);
        reads(sentence, "cool 1;due 1", 6);
        e.edge("warm n E; cool n E (one blank", "feed 0", "station = -10", "feed 127", "station = -10",
            "tape due 1", "feed 0", "station = -15", "tape due 1", "feed 127", "station = -15", "count 1 = 0");
    }

    private void chains() {
        String sentence = "E: T, or T|E. T: F, or F&T.";
        reads(sentence, "warm 1 |p=0", 7);
        reads(sentence, "warm 1 &p=0", 7);
        reads(sentence, "warm 1 p=0|", 11);
        reads(sentence, "warm 1 p=0&", 11);
        reads(sentence, "warm 1 p=0||p=0", 11);
        reads(sentence, "warm 1 p=0&&p=0", 11);
        reads(sentence, "warm 1 p=0&|p=0", 11);
        reads(sentence, "warm 1 p=0p=0", 10);
        String all = "p=0&".repeat(22);
        stirs(sentence, "warm 1 " + all + "p=0", 6);
        stirs(sentence, "warm 1 " + all + "p=1", 5);
        stirs(sentence, "warm 1 p=1&" + all.substring(4) + "p=0", 5);
        String any = "p=1|".repeat(22);
        stirs(sentence, "warm 1 " + any + "p=1", 5);
        stirs(sentence, "warm 1 " + any + "p=0", 6);
        stirs(sentence, "warm 1 p=0|" + any.substring(4) + "p=1", 6);
        stirs(sentence, "warm 1 p=0|p=0&p=1", 6);
        stirs(sentence, "warm 1 p=1&p=0|p=0", 6);
        stirs(sentence, "warm 1 p=1&p=0|p=1&p=0", 5);
        stirs(sentence, "warm 1 (p=0|p=0)&p=1", 5);
        stirs("T: F, or F&T. F: !F, (E), or a TEST", "warm 1 !p=0|p=0", 6);
        stirs("T: F, or F&T. F: !F, (E), or a TEST", "warm 1 !p=1&p=0", 6);
        stirs("T: F, or F&T. F: !F, (E), or a TEST", "warm 1 !(p=1&p=0)", 6);
        stirs("T: F, or F&T. F: !F, (E), or a TEST", "warm 1 !p=0&p=1", 5);
    }

    private void tests() {
        String sentence = "one of < = >, a number likewise";
        for (String look : new String[] {"p", "k", "v", "a", "n", "e"}) {
            String[] orders = {"<3", "<4", "=3", "=4", "=5", ">3", ">4", ">5"};
            boolean[] holds = {false, false, false, true, false, true, false, false};
            // all six are 4 of the fourth of these: it is p 4, a POSSIBLE, hangs on four, at the fourth evening
            for (int i = 0; i < orders.length; i++) {
                e.edge(sentence, "4 times matter 0 0", "matter 4 4", "tie 4 0 true", "tie 4 1 true", "tie 4 2 true",
                    "tie 4 3 true", "pass 4", "text warm 9 " + look + orders[i] + " = 0",
                    "of 4 7 = " + (holds[i] ? 14 : 5));
            }
            reads(sentence, "warm 1 " + look + "!1", 8);
            reads(sentence, "warm 1 " + look + "0", 8);
            reads(sentence, "warm 1 " + look, 8);
            reads(sentence, "warm 1 " + look + "<=1", 9);
            reads(sentence, "warm 1 " + (char) (look.charAt(0) - 32) + "=1", 7);
        }
        reads("p or k or v or a or n or e", "warm 1 x=1", 7);
        reads("p or k or v or a or n or e", "warm 1 =1", 7);
        reads("p or k or v or a or n or e", "warm 1 pk=1", 8);
        e.edge("n on how many that are not SETTLED it HANGS",
            "6 times matter 0 0", "text due 0;warm 1 n=0;warm 10 n=1;warm 20 n=4;warm 40 n=5 = 0", "of 0 7 = 6",
            "tie 0 1 true", "of 0 7 = 15", "tie 0 2 true", "tie 0 3 true", "tie 0 4 true", "of 0 7 = 25",
            "tie 0 5 true", "of 0 7 = 45", "shelve 5 true", "of 0 7 = 45", "shelve 5 false",
            "talk 5", "of 0 7 = 25", "talk 4", "talk 3", "talk 2", "of 0 7 = 15", "talk 1", "of 0 7 = 6",
            "reopen 3", "of 0 7 = 15");
    }

    private void wraps() {
        e.edge("a AGE modulo 10, n on",
            "matter 0 0", "text warm 10 a=0;warm 20 a=9;warm 40 a>9 = 0", "of 0 7 = 15", "pass 1", "of 0 7 = 5",
            "pass 8", "of 0 7 = 25", "pass 1", "of 0 2 = 10", "of 0 7 = 15", "pass 9", "of 0 7 = 25",
            "pass 1", "of 0 7 = 15", "pass 3", "reopen 0", "of 0 7 = 15");
        e.edge("e EVENING modulo 10.",
            "text warm 10 e=0;warm 20 e=9;warm 40 e>9 = 0", "matter 0 0", "of 0 7 = 15", "pass 1", "of 0 7 = 5",
            "pass 8", "of 0 7 = 25", "pass 1", "of 0 7 = 15", "reopen 0", "pass 9", "of 0 7 = 25",
            "pass 1", "told 0 = 20", "of 0 7 = 15");
        e.edge("e EVENING modulo 10. At most",
            "matter 0 0", "text warm 10 e=0;warm 20 e=9 = 0", "166 times pass 60", "pass 30 = 9990", "of 0 7 = 15",
            "pass 9 = 9999", "of 0 7 = 25");
    }

    private void open() {
        String sentence = "At most 5 of ! and ( are open (a ( till its ) , a ! till its F ends)";
        reads(sentence, "warm 1 (((((p=0)))))", -1);
        reads(sentence, "warm 1 ((((((p=0))))))", 12);
        reads(sentence, "warm 1 !!!!!p=0", -1);
        reads(sentence, "warm 1 !!!!!!p=0", 12);
        reads(sentence, "warm 1 !!!!!(p=0)", 12);
        reads(sentence, "warm 1 (((((!p=0)))))", 12);
        reads(sentence, "warm 1 !(!(!p=0))", -1);
        reads(sentence, "warm 1 !(!(!(p=0)))", 12);
        reads(sentence, "warm 1 (!(!(p=0)))", -1);
        reads(sentence, "warm 1 (!(!(!p=0)))", 12);
        stirs(sentence, "warm 1 (((((p=0)))))", 6);
        stirs(sentence, "warm 1 !!!!!p=0", 5);
        stirs(sentence, "warm 1 !!!!!p=1", 6);
        stirs(sentence, "warm 1 !!!!p=0", 6);
    }

    private void openAgain() {
        String till = "a ( till its ) , a ! till its F ends";
        reads(till, "warm 1 (((((p=0)))))&(((((p=0)))))|(((((p=0)))))", -1);
        reads(till, "warm 1 !!!!!p=0&!!!!!p=0|!!!!!p=0", -1);
        reads(till, "warm 1 !!!!!p=0;cool 1 !!!!!p=0", -1);
        reads(till, "warm 1 !!!!(p=0)&!!!!(p=0)", -1);
        reads(till, "warm 1 (!!!!p=0&!!!!p=0)", -1);
        reads(till, "warm 1 (!!!!p=0|!!!!!p=0)", 20);
        reads(till, "warm 1 ((((!p=0))&((!p=0)))|(((!p=0))))", -1);
        reads(till, "warm 1 ((((!p=0))&((!p=0)))|p=0)", -1);
        reads(till, "warm 1 ((((!p=0))&((!!p=0)))|p=0)", 21);
        reads(till, "warm 1 !(!!!p=0&!!!p=0&(((p=0))))", -1);
        reads(till, "warm 1 !(!!!p=0&!!!p=0&((((p=0)))))", 26);
        reads(till, "warm 1 (p=0", 11);
        reads(till, "warm 1 (p=0;", 11);
        reads(till, "warm 1 p=0)", 10);
        reads(till, "warm 1 (p=0))", 12);
        reads(till, "warm 1 ()", 8);
        reads(till, "warm 1 !", 8);
        reads(till, "warm 1 !)", 8);
    }

    private void faults() {
        String sentence = "FAULT: the place of the first byte with which no STATION can go on (the size, if it ends too early)";
        String text = "due 7;warm 12 !(p<3&k=10)|e>9;fade 5";
        for (int size = 0; size <= text.length(); size++) {
            boolean isStation = size == 5 || size == 25 || size == 29 || size == 36;
            reads(sentence, text.substring(0, size), isStation ? -1 : size);
            if (size < text.length()) {
                reads(sentence, text.substring(0, size) + "#" + text.substring(size + 1), size);
                reads(sentence, text.substring(0, size) + "#", size);
            }
        }
        reads(sentence, text + "#", 36);
        reads(sentence, "x", 0);
        reads(sentence, "dux", 2);
    }

    private void many() {
        e.edge("STATIONS are numbered from 0 on, 5 at most",
            "count 1 = 0", "text due 1 = 0", "count 1 = 1", "text due 2 = 1", "text due = -13", "count 1 = 2",
            "text due 3 = 2", "text due 4 = 3", "count 1 = 4", "text due 5 = 4", "count 1 = 5",
            "tape due 6", "still station = FULL", "count 1 = 5", "count 5 = 5", "told 1 = 5");
        e.edge("the newest one holds; without one there are no CLAUSES",
            "matter 0 0", "told 1 = 20", "told 2 = 1", "of 0 7 = 5",
            "text due 3;fade 4;warm 5 p=0 = 0", "told 1 = 3", "told 2 = 4", "of 0 7 = 10",
            "text warm 1 p=0 = 1", "told 1 = 20", "told 2 = 1", "of 0 7 = 6",
            "text fade 9 = 2", "told 1 = 20", "told 2 = 9", "of 0 7 = 5", "text warm = -14", "told 2 = 9");
    }

    private void without() {
        e.edge("DUE (20 without), FADE (1 without): the last n of due, of fade",
            "2 times matter 0 0", "told 1 = 20", "told 2 = 1", "3 times talk 0 = 0", "of 0 3 = 15",
            "talk -1", "of 0 3 = 14", "text fade 2 = 0", "told 1 = 20", "told 2 = 2",
            "text due 3 = 1", "told 1 = 3", "told 2 = 1",
            "text due 7;fade 8;due 0;fade 9;warm 1 p=0;due 2;fade 0 = 2", "told 1 = 2", "told 2 = 0",
            "text due 9;fade 9;due 0;fade 1 = 3", "told 1 = 0", "told 2 = 1");
        e.edge("DUE (20 without)", "matter 0 0", "3 times talk 0 = 0", "of 0 3 = 15", "talk 0 = 1", "of 0 3 = 20");
        e.edge("DUE (20 without), FADE", "matter 0 0", "4 times talk -1", "text warm 14 p=0;fade 0 = 0",
            "talk 0 = 0", "of 0 3 = 19", "text cool 4 p=0 = 1", "talk 0 = 1", "of 0 3 = 20");
    }

    private void sums() {
        String sentence = "SUM of one: 5, and the n of all warm whose E holds, less those of all cool, together (may be below 0)";
        e.edge(sentence, "matter 0 0", "of 0 7 = 5");
        stirs(sentence, "cool 4 p=0", 1);
        stirs(sentence, "cool 5 p=0", 0);
        stirs(sentence, "cool 6 p=0", -1);
        stirs(sentence, "warm 9 p=1;cool 7 p=1", 5);
        stirs(sentence, "warm 1 p=0;cool 9 p=0;warm 2 p=0;cool 3 p=1", -1);
        stirs(sentence, "warm 99 p<9;".repeat(7) + "warm 99 p<9", 797);
        stirs(sentence, "cool 99 p<9;".repeat(7) + "cool 99 p<9", -787);
    }
}
