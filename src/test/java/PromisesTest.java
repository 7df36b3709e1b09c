/** Each promise by itself, with answers worked out by hand from the document. */
public final class PromisesTest {
    private static final int LEAST = Integer.MIN_VALUE, MOST = Integer.MAX_VALUE;
    private static final long NO = Long.MIN_VALUE;
    private static final Check CHECK = new Check();

    public static void main(String[] args) {
        promise1NewObject();
        promise2Feed();
        promise3Station();
        promise3Faults();
        promise3Tests();
        promise4Matter();
        promise5Of();
        promise5Stir();
        promise6Row();
        promise7Tie();
        promise8Shelve();
        promise9Reopen();
        promise10Told();
        promise10RingAndLoose();
        promise11Talk();
        promise11End();
        promise12Pass();
        promise13On();
        promise13Beyond();
        promise14When();
        promise15Agenda();
        promise16Net();
        promise17See();
        promise18Dues();
        promise19Firm();
        promise20Odds();
        promise21Mean();
        promise22Plan();
        promise23Done();
        promise24Book();
        promise25Looked();
        promise26Act();
        promise27Trace();
        promise28As();
        promise29Image();
        promise30Undo();
        promise31Count();
        CHECK.end();
    }

    private static void same(String what, long got, long want) {
        CHECK.same(what, got, want);
    }

    private static VerandaTalk with(int... kinds) {
        VerandaTalk x = new VerandaTalk();
        for (int kind : kinds) {
            x.matter(kind, 0);
        }
        return x;
    }

    private static void pass(VerandaTalk x, int evenings) {
        for (int rest = evenings; rest > 0; rest -= 60) {
            x.pass(Math.min(60, rest));
        }
    }

    private static void promise1NewObject() {
        VerandaTalk x = new VerandaTalk();
        for (int what = 0; what <= 6; what++) {
            same("1: count(" + what + ")", x.count(what), 0);
        }
        same("1: due", x.told(1), 20);
        same("1: fade", x.told(2), 1);
        same("1: evening", x.told(0), 0);
        same("1: topic", x.told(6), -5);
        same("1: of", x.of(0, 0), -999999);
        same("1: undo", x.undo(), VerandaTalk.STATE);
    }

    private static void promise2Feed() {
        VerandaTalk x = new VerandaTalk();
        for (int sign : new int[] {-1, 128, LEAST, MOST}) {
            same("2: feed(" + sign + ")", x.feed(sign), VerandaTalk.BAD);
        }
        same("2: nothing came", x.count(5), 0);
        same("2: least", x.feed(0), 1);
        same("2: most", x.feed(127), 2);
        for (int i = 3; i <= 100; i++) {
            same("2: feed", x.feed(';'), i);
        }
        same("2: full", x.feed(';'), VerandaTalk.FULL);
        same("2: bad ahead of full", x.feed(128), VerandaTalk.BAD);
        same("2: stays", x.count(5), 100);
    }

    private static void promise3Station() {
        VerandaTalk x = new VerandaTalk();
        same("3: first", Check.station(x, "due 7;fade 3;due 9"), 0);
        same("3: tape is empty then", x.count(5), 0);
        same("3: last due", x.told(1), 9);
        same("3: fade", x.told(2), 3);
        same("3: fault", Check.station(x, "due 8;fad"), -19);
        same("3: tape is empty by a fault, too", x.count(5), 0);
        same("3: the one that held holds", x.told(1), 9);
        same("3: its fade", x.told(2), 3);
        same("3: second", Check.station(x, "fade 0"), 1);
        same("3: due of the newest", x.told(1), 20);
        same("3: fade of the newest", x.told(2), 0);
        same("3: third", Check.station(x, "due 99"), 2);
        same("3: fade again 1", x.told(2), 1);
        same("3: fourth", Check.station(x, "due 0"), 3);
        same("3: fifth", Check.station(x, "due 1"), 4);
        same("3: full", Check.station(x, "due 2"), VerandaTalk.FULL);
        same("3: tape stays", x.count(5), 5);
        same("3: count", x.count(1), 5);
        same("3: due stays", x.told(1), 1);
        x.feed('x');
        same("3: full is ahead of a fault", x.station(), VerandaTalk.FULL);
        promise3BehindFaults();
    }

    /** Nothing of a text with a fault is left for the next one. */
    private static void promise3BehindFaults() {
        VerandaTalk x = with(0, 0);
        for (int i = 0; i < 4; i++) {
            String text = "due 3;fade 4;warm 9 p=0&p=0&p=0&p=0&p=0&p=0&p=0&p=0&p=0&p=0&p=0&p=0&p=0&p=0&p=0;warm 1 p=0;";
            same("3: a long one ends too early", Check.station(x, text), -10 - text.length());
        }
        same("3: a short one", Check.station(x, "warm 2 !(p=1&k=0);cool 1 p=1|k=1"), 0);
        same("3: due is not of a faulty one", x.told(1), 20);
        same("3: fade is not, either", x.told(2), 1);
        same("3: warm and cool are not, either", x.of(0, 7), 7);
        same("3: of the other", x.of(1, 7), 4);
    }

    private static void fault(String text, int place) {
        VerandaTalk x = new VerandaTalk();
        same("3: station of " + text, Check.station(x, text), place < 0 ? 0 : -10 - place);
        same("3: stations of " + text, x.count(1), place < 0 ? 1 : 0);
    }

    private static void promise3Faults() {
        fault("", 0);
        fault("x", 0);
        fault(" due 1", 0);
        fault("d", 1);
        fault("dux 1", 2);
        fault("due", 3);
        fault("due1", 3);
        fault("due  1", 4);
        fault("due ", 4);
        fault("due x", 4);
        fault("due 0", -1);
        fault("due 00", 5);
        fault("due 05", 5);
        fault("due 10", -1);
        fault("due 100", 6);
        fault("due 1 ", 5);
        fault("due 1;", 6);
        fault("due 1;;", 6);
        fault("due 1; due 1", 6);
        fault("fade 99", -1);
        fault("fede 9", 1);
        fault("warm 6", 6);
        fault("warm 6 ", 7);
        fault("warm 6;due 1", 6);
        fault("warm 6 x=1", 7);
        fault("warm 6 p", 8);
        fault("warm 6 p!", 8);
        fault("warm 6 p=", 9);
        fault("warm 6 p=;", 9);
        fault("warm 6 p=00", 10);
        fault("warm 6 p=12", -1);
        fault("warm 6 p=123", 11);
        fault("cool 6 p<1&", 11);
        fault("cool 6 p<1|k>2&a=10|n=0;due 3", -1);
        fault("cool 6 p<1)", 10);
        fault("cool 6 (p<1", 11);
        fault("cool 6 (p<1;", 11);
        fault("cool 6 ()", 8);
        fault("cool 6 (p<1))", 12);
        fault("cool 6 !", 8);
        fault("cool 6 !!(!p<1)", -1);
        fault("cool 6 p<1!", 10);
        fault("cool 6 p<1|", 11);
        fault("cool 6 p<1|;", 11);
        fault("cool 6 p<1&;due 1", 11);
        fault("cool 6 (((((p<1)))))", -1);
        fault("cool 6 ((((((p<1))))))", 12);
        fault("cool 6 !!!!!p<1", -1);
        fault("cool 6 !!!!!!p<1", 12);
        fault("cool 6 !(!(!p<1&!p<2)|!p=3)", -1);
        fault("cool 6 !(!(!p<1&!!p<2)|!p=3)", 17);
        fault("cool 6 !(!(!p<1&(p<2))|(!(p=3)))", -1);
        fault("cool 6 ((((p<1))))&!!!!!p<1", -1);
        fault("cool 6 !!!!p<1&(((((p<1)))))", -1);
        fault("warm 0 p=1", -1);
        fault("WARM 1 p=1", 0);
        fault("due 1;due 2;due 3;due 4;due 5;due 6;due 7;due 8;due 9;due 1", -1);
        fault("due 1;due 2;due 3;due 4;due 5;due 6;due 7;due 8;due 9;due 1;due 2", 59);
        fault("due 1;due 2;due 3;due 4;due 5;due 6;due 7;due 8;due 9;due 10x", 60);
    }

    /** The STIR of the first of MATTERS, which is 5 and what the station makes it more. */
    private static void stir(String text, int want) {
        VerandaTalk x = new VerandaTalk();
        x.matter(0, 4);
        x.matter(3, 7);
        x.tie(0, 1, true);
        x.pass(12);
        same("3: station " + text, Check.station(x, text), 0);
        same("3: stir by " + text, x.of(0, 7), want);
    }

    private static void promise3Tests() {
        stir("warm 10 p=0", 15);
        stir("warm 10 p>0", 5);
        stir("warm 10 p<1", 15);
        stir("warm 10 p<0", 5);
        stir("warm 10 k=0", 15);
        stir("warm 10 v=4", 15);
        stir("warm 10 v>4", 5);
        stir("warm 10 v<99", 15);
        stir("warm 10 a=2", 15);
        stir("warm 10 a=12", 5);
        stir("warm 10 n=1", 15);
        stir("warm 10 e=2", 15);
        stir("warm 10 e>9", 5);
        stir("cool 10 p=0", -5);
        stir("warm 10 p=0;cool 3 p=0;warm 1 v=4;cool 50 v=5", 13);
        stir("warm 10 !p=0", 5);
        stir("warm 10 !p=1", 15);
        stir("warm 10 !!p=0", 15);
        stir("warm 10 p=0|p=0&p=1", 15);
        stir("warm 10 (p=0|p=0)&p=1", 5);
        stir("warm 10 p=1&p=0|p=0", 15);
        stir("warm 10 p=1&(p=0|p=0)", 5);
        stir("warm 10 !p=0&p=1", 5);
        stir("warm 10 !(p=0&p=1)", 15);
        stir("warm 10 !p=0|p=0", 15);
        stir("warm 10 !(p=0|p=0)", 5);
        stir("warm 10 p=1|p=1|p=0&p=0&!p=1", 15);
        stir("warm 10 (p=1|(p=0&(p=0|(p=1&(p=0)))))", 15);
        VerandaTalk x = with(0, 3);
        x.tie(0, 1, true);
        Check.station(x, "due 1;warm 10 n=1");
        same("3: hangs on one not settled", x.of(0, 7), 15);
        x.shelve(1, true);
        same("3: that is shelved, too", x.of(0, 7), 15);
        x.shelve(1, false);
        x.talk(1);
        same("3: on one settled", x.of(0, 7), 5);
    }

    private static void promise4Matter() {
        VerandaTalk x = new VerandaTalk();
        for (int kind : new int[] {-1, 7, LEAST, MOST}) {
            same("4: kind " + kind, x.matter(kind, 0), VerandaTalk.NONE);
        }
        for (int v : new int[] {-1, 10, LEAST, MOST}) {
            same("4: v " + v, x.matter(0, v), VerandaTalk.BAD);
        }
        same("4: kind ahead of v", x.matter(7, 10), VerandaTalk.NONE);
        same("4: nothing came", x.count(0), 0);
        for (int i = 0; i < 6; i++) {
            same("4: number", x.matter(6 - i, 9 - i), i);
            same("4: kind", x.of(i, 0), 6 - i);
            same("4: v", x.of(i, 1), 9 - i);
            for (int what = 2; what <= 5; what++) {
                same("4: at first " + what, x.of(i, what), 0);
            }
            same("4: ties", x.of(i, 8), 0);
        }
        same("4: full", x.matter(0, 0), VerandaTalk.FULL);
        same("4: v ahead of full", x.matter(0, 10), VerandaTalk.BAD);
        same("4: kind ahead of full", x.matter(-1, 0), VerandaTalk.NONE);
    }

    private static void promise5Of() {
        VerandaTalk x = with(0, 1);
        for (int matter : new int[] {-1, 2, LEAST, MOST}) {
            same("5: matter " + matter, x.of(matter, 0), -999999);
        }
        for (int what : new int[] {-1, 9, LEAST, MOST}) {
            same("5: what " + what, x.of(0, what), -999999);
        }
        same("5: ready", x.of(0, 6), 1);
        x.tie(0, 1, true);
        same("5: hangs on", x.of(0, 8), 2);
        same("5: hangs on one open", x.of(0, 6), 0);
        x.shelve(1, true);
        same("5: hangs on one shelved", x.of(0, 6), 0);
        same("5: shelved", x.of(1, 5), 1);
        same("5: shelved is not ready", x.of(1, 6), 0);
        x.shelve(1, false);
        x.talk(1);
        same("5: talked", x.of(1, 3), 5);
        same("5: age", x.of(1, 2), 1);
        Check.station(x, "due 10");
        x.talk(1);
        same("5: settled", x.of(1, 4), 1);
        same("5: settled does not age", x.of(1, 2), 1);
        same("5: settled is not ready", x.of(1, 6), 0);
        same("5: hangs on one settled", x.of(0, 6), 1);
        same("5: the tie stays", x.of(0, 8), 2);
        same("5: the other one ages", x.of(0, 2), 2);
    }

    private static void promise5Stir() {
        VerandaTalk x = new VerandaTalk();
        for (int kind = 0; kind <= 5; kind++) {
            x.matter(kind, 3);
        }
        int[] atFirst = {5, 5, 2, 5, 5, 4};
        for (int i = 0; i < 6; i++) {
            same("5: stir at first of " + i, x.of(i, 7), atFirst[i]);
        }
        x.talk(-1);
        same("5: possible at an odd evening", x.of(4, 7), 0);
        x.tie(5, 0, true);
        same("5: frontier that hangs on one", x.of(5, 7), 2);
        Check.station(x, "due 0");
        x.talk(0);
        x.talk(4);
        same("5: settled two", x.told(4), 17);
        same("5: loan", x.of(3, 7), 7);
        same("5: frontier that hangs on one settled", x.of(5, 7), 2);
        x.talk(3);
        same("5: loan counts others alone", x.of(3, 7), 7);
        x.pass(6);
        same("5: age of marriage", x.of(1, 2), 10);
        same("5: half of marriage", x.of(1, 7), 2);
        Check.station(x, "cool 8 p<9");
        same("5: half is cut toward 0", x.of(1, 7), -1);
        same("5: boundary below 0", x.of(2, 7), -6);
        same("5: frontier below 0", x.of(5, 7), -6);
        x.tie(5, 0, false);
        same("5: frontier twice below 0", x.of(5, 7), -12);
        VerandaTalk y = with(4, 1);
        y.pass(9);
        same("5: marriage of age 9", y.of(1, 7), 5);
        same("5: possible of age 9, odd", y.of(0, 7), 0);
        y.pass(1);
        same("5: possible of age 10, even", y.of(0, 7), 2);
    }

    private static void promise6Row() {
        VerandaTalk x = with(3, 6);
        same("6: matter", x.row(2, 0, 1), VerandaTalk.NONE);
        same("6: matter below", x.row(-1, 0, 1), VerandaTalk.NONE);
        same("6: k", x.row(1, 4, 1), VerandaTalk.NONE);
        same("6: k below", x.row(1, -1, 1), VerandaTalk.NONE);
        same("6: n", x.row(1, 0, 10), VerandaTalk.BAD);
        same("6: n below", x.row(1, 0, -1), VerandaTalk.BAD);
        same("6: kind", x.row(0, 0, 1), VerandaTalk.STATE);
        same("6: k ahead of n", x.row(1, MOST, MOST), VerandaTalk.NONE);
        same("6: n ahead of kind", x.row(0, 0, MOST), VerandaTalk.BAD);
        for (int k = 0; k < 4; k++) {
            same("6: was 0", x.row(1, k, 2 * k + 1), 0);
        }
        same("6: was", x.row(1, 3, 9), 7);
        same("6: to 0", x.row(1, 0, 0), 1);
        same("6: from 0", x.row(1, 0, 1), 0);
        int[] stirs = {6, 8, 10, 14, 6};
        for (int stir : stirs) {
            same("6: stir at evening " + x.told(0), x.of(1, 7), stir);
            x.talk(-1);
        }
    }

    private static void promise7Tie() {
        VerandaTalk x = with(0, 1, 2);
        same("7: matter", x.tie(3, 0, true), VerandaTalk.NONE);
        same("7: other", x.tie(0, 3, true), VerandaTalk.NONE);
        same("7: below", x.tie(-1, LEAST, true), VerandaTalk.NONE);
        same("7: none ahead of bad", x.tie(3, 3, true), VerandaTalk.NONE);
        same("7: one is both", x.tie(1, 1, true), VerandaTalk.BAD);
        same("7: nothing is tied", x.of(1, 8), 0);
        same("7: did not", x.tie(0, 2, true), 0);
        same("7: did", x.tie(0, 2, true), 1);
        same("7: not the other way", x.of(2, 8), 0);
        same("7: two", x.tie(0, 1, true), 0);
        same("7: bits", x.of(0, 8), 6);
        same("7: no more", x.tie(0, 2, false), 1);
        same("7: did not again", x.tie(0, 2, false), 0);
        same("7: one left", x.of(0, 8), 2);
    }

    private static void promise8Shelve() {
        VerandaTalk x = with(0, 1);
        same("8: matter", x.shelve(2, true), VerandaTalk.NONE);
        same("8: below", x.shelve(-1, true), VerandaTalk.NONE);
        same("8: was not", x.shelve(1, true), 0);
        same("8: was", x.shelve(1, true), 1);
        same("8: ready", x.told(5), 1);
        x.talk(1);
        same("8: talk of one shelved", x.of(1, 3), 0);
        same("8: it ages", x.of(1, 2), 1);
        same("8: it costs nothing", x.told(3), 1);
        same("8: no more", x.shelve(1, false), 1);
        x.talk(1);
        x.shelve(1, true);
        x.talk(0);
        same("8: shelved does not fade", x.of(1, 3), 5);
    }

    private static void promise9Reopen() {
        VerandaTalk x = with(0, 1);
        Check.station(x, "due 10");
        same("9: matter", x.reopen(2), VerandaTalk.NONE);
        same("9: below", x.reopen(LEAST), VerandaTalk.NONE);
        x.talk(0);
        x.talk(0);
        same("9: settled", x.told(4), 1);
        same("9: was", x.reopen(0), 1);
        same("9: no more", x.told(4), 0);
        same("9: talked", x.of(0, 3), 0);
        same("9: age", x.of(0, 2), 0);
        x.talk(1);
        same("9: was not", x.reopen(1), 0);
        same("9: talked all the same", x.of(1, 3), 0);
        same("9: age all the same", x.of(1, 2), 0);
        x.talk(1);
        x.talk(1);
        same("9: the other one was", x.reopen(1), 1);
        x.shelve(0, true);
        x.reopen(0);
        same("9: stays shelved", x.of(0, 5), 1);
    }

    private static void promise10Told() {
        VerandaTalk x = with(0, 2, 0);
        same("10: what", x.told(9), VerandaTalk.NONE);
        same("10: below", x.told(-1), VerandaTalk.NONE);
        same("10: far", x.told(MOST), VerandaTalk.NONE);
        same("10: first of several", x.told(6), 0);
        x.tie(0, 1, true);
        same("10: ready", x.told(5), 6);
        same("10: still first of several", x.told(6), 1);
        Check.station(x, "due 5;fade 2;warm 1 p=2");
        same("10: greatest", x.told(6), 2);
        same("10: due", x.told(1), 5);
        same("10: fade", x.told(2), 2);
        x.talk(2);
        same("10: evening", x.told(0), 1);
        same("10: cost", x.told(3), 2);
        same("10: settled", x.told(4), 4);
        same("10: ready then", x.told(5), 2);
        Check.station(x, "cool 5 p=1");
        same("10: stir 0 is no topic", x.told(6), -5);
        Check.station(x, "cool 4 p=1");
        same("10: stir 1 is", x.told(6), 1);
    }

    private static void promise10RingAndLoose() {
        VerandaTalk x = with(0, 0, 0, 0, 0, 0);
        Check.station(x, "due 0");
        x.tie(0, 1, true);
        x.tie(1, 2, true);
        same("10: no ring", x.told(7), 0);
        same("10: nothing to drop", x.told(8), 0);
        x.tie(2, 0, true);
        x.tie(3, 0, true);
        x.tie(4, 3, true);
        x.tie(0, 5, true);
        same("10: ring, and what hangs on it", x.told(7), 31);
        same("10: one to drop", x.told(8), 1);
        x.shelve(1, true);
        same("10: shelved ones are in it", x.told(7), 31);
        x.tie(5, 0, true);
        same("10: two rings with no tie of both", x.told(8), 2);
        same("10: all", x.told(7), 63);
        x.tie(5, 0, false);
        x.talk(5);
        VerandaTalk y = with(0, 0, 0);
        Check.station(y, "due 0");
        y.talk(2);
        y.tie(0, 1, true);
        y.tie(1, 0, true);
        y.tie(2, 0, true);
        same("10: a settled one that hangs on a ring", y.told(7), 7);
        same("10: its tie is not to be dropped", y.told(8), 1);
        y.tie(0, 2, true);
        same("10: no ring by a settled one", y.told(8), 1);
        VerandaTalk z = with(0, 0, 0, 0, 0, 0);
        for (int i = 0; i < 36; i++) {
            z.tie(i / 6, i % 6, true);
        }
        same("10: all hang on all", z.told(8), 15);
    }

    private static void promise11Talk() {
        VerandaTalk x = with(0, 0, 2);
        same("11: matter", x.talk(3), VerandaTalk.NONE);
        same("11: below", x.talk(-2), VerandaTalk.NONE);
        same("11: nothing went", x.told(0), 0);
        same("11: of one", x.talk(0), 0);
        same("11: of one", x.talk(0), 0);
        same("11: talked", x.of(0, 3), 10);
        same("11: of another one", x.talk(1), 0);
        same("11: fades", x.of(0, 3), 9);
        same("11: of none", x.talk(-1), 0);
        same("11: fades by none", x.of(0, 3), 8);
        same("11: the other one, too", x.of(1, 3), 4);
        x.tie(0, 1, true);
        x.talk(0);
        same("11: fades where it is not ready", x.of(0, 3), 7);
        same("11: cost", x.told(3), 15);
        Check.station(x, "due 5;fade 4;cool 6 p=1");
        same("11: not below due", x.talk(1), 0);
        same("11: stir below 0 is none", x.of(1, 3), 3);
        same("11: fades by more", x.of(0, 3), 3);
        x.talk(-1);
        same("11: not below 0", x.of(0, 3), 0);
        same("11: not below 0", x.of(1, 3), 0);
        Check.station(x, "due 0;cool 9 p=1");
        same("11: settled with no stir", x.talk(1), 2);
        same("11: cost is of those open then", x.told(3), 23);
        Check.station(x, "due 99;fade 3;warm 95 p=0");
        same("11: settled at due", x.talk(0), 3);
        same("11: held at 99", x.of(0, 3), 99);
        same("11: of one settled", x.talk(0), 3);
        same("11: a settled one does not fade", x.of(0, 3), 99);
    }

    private static void promise11End() {
        VerandaTalk x = with(0, 4);
        pass(x, 9998);
        same("11: last", x.talk(0), 0);
        same("11: evening", x.told(0), 9999);
        same("11: age", x.of(0, 2), 9999);
        same("11: cost", x.told(3), 19998);
        same("11: end", x.talk(0), VerandaTalk.STATE);
        same("11: end of none", x.talk(-1), VerandaTalk.STATE);
        same("11: matter ahead of end", x.talk(2), VerandaTalk.NONE);
        same("11: nothing went", x.of(0, 3), 5);
    }

    private static void promise12Pass() {
        VerandaTalk x = with(0);
        same("12: below", x.pass(-1), VerandaTalk.BAD);
        same("12: above", x.pass(61), VerandaTalk.BAD);
        same("12: far", x.pass(MOST), VerandaTalk.BAD);
        same("12: none", x.pass(0), 0);
        x.talk(0);
        same("12: three", x.pass(3), 4);
        same("12: fades", x.of(0, 3), 2);
        same("12: most", x.pass(60), 64);
        same("12: ages", x.of(0, 2), 64);
        same("12: costs", x.told(3), 64);
        pass(x, 9900);
        same("12: would be above", x.pass(36), VerandaTalk.STATE);
        same("12: bad ahead", x.pass(61), VerandaTalk.BAD);
        same("12: nothing went", x.told(0), 9964);
        same("12: to the end", x.pass(35), 9999);
        same("12: none at the end", x.pass(0), 9999);
        same("12: one at the end", x.pass(1), VerandaTalk.STATE);
    }

    private static void promise13On() {
        VerandaTalk x = with(0, 0);
        x.tie(1, 0, true);
        same("13: what", x.on(0, 2), VerandaTalk.NONE);
        same("13: what below 10", x.on(0, 9), VerandaTalk.NONE);
        same("13: no such matter", x.on(0, 12), VerandaTalk.NONE);
        same("13: what below", x.on(0, LEAST), VerandaTalk.NONE);
        same("13: n", x.on(61, 0), VerandaTalk.BAD);
        same("13: n below", x.on(-1, 10), VerandaTalk.BAD);
        same("13: what ahead of n", x.on(61, 12), VerandaTalk.NONE);
        same("13: now", x.on(0, 0), 0);
        same("13: 3", x.on(3, 0), 0);
        same("13: 3 talked", x.on(3, 10), 15);
        same("13: 3 cost", x.on(3, 1), 6);
        same("13: 4", x.on(4, 0), 1);
        same("13: 4 cost", x.on(4, 1), 7);
        same("13: 6 talked", x.on(6, 11), 10);
        same("13: 6, the settled one", x.on(6, 10), 20);
        same("13: 8", x.on(8, 0), 3);
        same("13: 60 cost", x.on(60, 1), 10);
        same("13: changes nothing", x.told(0), 0);
        same("13: changes no talk", x.of(0, 3), 0);
        same("13: no matters", new VerandaTalk().on(60, 0), 0);
    }

    private static void promise13Beyond() {
        VerandaTalk x = with(2);
        x.shelve(0, true);
        pass(x, 9999);
        x.matter(4, 0);
        same("13: beyond 9999", x.on(7, 0), 0);
        same("13: goes up at even evenings", x.on(2, 11), 5);
        same("13: and fades at odd ones", x.on(3, 11), 4);
        x.shelve(1, true);
        x.shelve(0, false);
        Check.station(x, "due 99;warm 90 a=3");
        same("13: age goes beyond 9999", x.on(4, 10), 20);
        same("13: and its last digit", x.on(5, 10), 99);
        same("13: and settles", x.when(0), 5);
    }

    private static void promise14When() {
        VerandaTalk x = with(0, 4, 2);
        same("14: matter", x.when(3), VerandaTalk.NONE);
        same("14: below", x.when(-1), VerandaTalk.NONE);
        same("14: fewest", x.when(0), 4);
        // talked of in turns with the possible one till that is of AGE 10
        same("14: behind another one", x.when(2), 12);
        x.tie(1, 2, true);
        x.tie(2, 1, true);
        same("14: in a ring", x.when(1), -5);
        Check.station(x, "due 0");
        x.talk(0);
        same("14: already", x.when(0), 0);
        VerandaTalk y = with(0, 0);
        Check.station(y, "due 60;cool 4 p<9");
        same("14: by the 60th", y.when(0), 60);
        same("14: not by then", y.when(1), -5);
        same("14: changes nothing", y.told(0), 0);
    }

    private static void promise15Agenda() {
        VerandaTalk x = with(0, 0);
        same("15: what", x.agenda(2, 2), VerandaTalk.NONE);
        same("15: what 9", x.agenda(2, 9), VerandaTalk.NONE);
        same("15: what 14", x.agenda(2, 14), VerandaTalk.NONE);
        same("15: below", x.agenda(2, LEAST), VerandaTalk.NONE);
        same("15: what ahead of n", x.agenda(0, 2), VerandaTalk.NONE);
        same("15: n", x.agenda(0, 0), VerandaTalk.BAD);
        same("15: n above", x.agenda(5, 13), VerandaTalk.BAD);
        same("15: n ahead of there being fewer", x.agenda(-1, 13), VerandaTalk.BAD);
        same("15: fewer", x.agenda(1, 11), -5);
        same("15: fewer than 4", x.agenda(3, 13), -5);
        same("15: none can be settled", x.agenda(3, 0), 0);
        same("15: cost of that", x.agenda(3, 1), 6);
        same("15: the first row", x.agenda(3, 12), 0);
        same("15: four of one", x.agenda(4, 0), 1);
        same("15: cost of four", x.agenda(4, 1), 7);
        same("15: the first of them", x.agenda(4, 13), 0);
        Check.station(x, "due 6;fade 1;warm 1 p=1");
        same("15: the quick one first", x.agenda(3, 0), 2);
        same("15: as that costs less", x.agenda(3, 1), 2);
        same("15: row", x.agenda(3, 10), 1);
        same("15: row", x.agenda(3, 11), 0);
        same("15: row", x.agenda(3, 12), 0);
        same("15: what is over", x.agenda(4, 13), 0);
        x.pass(2);
        same("15: cost is what is more", x.agenda(3, 1), 2);
        same("15: nothing went", x.told(0), 2);
        VerandaTalk y = new VerandaTalk();
        same("15: none", y.agenda(1, 10), 9);
        same("15: none has cost", y.agenda(4, 1), 0);
        VerandaTalk z = with(0, 4);
        Check.station(z, "due 6;fade 0;warm 4 e=1&p=0;cool 5 e>1");
        same("15: a talk that is none is not none", z.agenda(3, 0), 1);
        same("15: odd evening", z.agenda(3, 10), 0);
        same("15: at 1", z.agenda(2, 11), 0);
    }

    private static void promise16Net() {
        VerandaTalk x = with(0, 0, 0, 0, 0);
        same("16: matter", x.net(5), VerandaTalk.NONE);
        same("16: below", x.net(-1), VerandaTalk.NONE);
        same("16: none", x.net(0), 0);
        x.tie(0, 1, true);
        x.tie(1, 2, true);
        x.tie(2, 3, true);
        x.tie(3, 4, true);
        same("16: and so on", x.net(0), 30);
        same("16: not itself", x.net(3), 16);
        x.tie(4, 2, true);
        same("16: itself", x.net(2), 28);
        Check.station(x, "due 0");
        x.tie(2, 3, false);
        x.talk(2);
        x.tie(2, 3, true);
        same("16: not through one settled", x.net(0), 2);
        same("16: of one settled", x.net(2), 24);
        same("16: ring through none settled", x.told(7), 0);
        x.reopen(2);
        x.shelve(2, true);
        same("16: through one shelved", x.net(0), 30);
    }

    private static void promise17See() {
        VerandaTalk x = with(0, 0);
        same("17: matter", x.see(2, 0, true), VerandaTalk.NONE);
        same("17: below", x.see(-2, 0, true), VerandaTalk.NONE);
        same("17: n", x.see(0, 21, true), VerandaTalk.BAD);
        same("17: n below", x.see(0, -1, true), VerandaTalk.BAD);
        same("17: matter ahead of n", x.see(2, 21, true), VerandaTalk.NONE);
        same("17: nothing came", x.count(2), 0);
        for (int i = 1; i <= 5; i++) {
            same("17: how many", x.see(i % 2, 20, false), i);
        }
        same("17: full", x.see(0, 0, true), VerandaTalk.FULL);
        same("17: n ahead of full", x.see(0, 21, true), VerandaTalk.BAD);
        same("17: none then", x.see(-1, 99, true), 0);
        same("17: none", x.count(2), 0);
        same("17: room again", x.see(1, 0, true), 1);
    }

    private static void promise18Dues() {
        VerandaTalk x = with(0, 0);
        same("18: what", x.dues(2), VerandaTalk.NONE);
        same("18: below", x.dues(-1), VerandaTalk.NONE);
        same("18: nothing seen", x.dues(0), 60);
        same("18: the least of all", x.dues(1), 1);
        x.see(0, 2, true);
        same("18: settled behind two", x.dues(0), 10);
        same("18: least", x.dues(1), 1);
        x.see(0, 1, false);
        same("18: not behind one", x.dues(0), 5);
        same("18: least", x.dues(1), 6);
        x.see(1, 4, true);
        same("18: and the other behind four", x.dues(0), 5);
        x.see(1, 3, true);
        same("18: and behind three", x.dues(0), 0);
        same("18: none", x.dues(1), -5);
        x.see(-1, 0, true);
        x.see(0, 0, false);
        same("18: now", x.dues(0), 60);
        x.see(0, 0, true);
        same("18: not now", x.dues(0), 0);
        same("18: due stays", x.told(1), 20);
        x.see(-1, 0, true);
        x.see(0, 12, true);
        same("18: all dues to 60", x.dues(0), 60);
        x.see(0, 11, false);
        same("18: the greatest dues alone", x.dues(0), 5);
        same("18: least of them", x.dues(1), 56);
        x.see(-1, 0, true);
        x.see(0, 2, true);
        x.talk(0);
        same("18: from what is now on", x.dues(0), 15);
    }

    private static void promise19Firm() {
        VerandaTalk x = new VerandaTalk();
        x.matter(2, 9);
        x.matter(0, 0);
        x.shelve(1, true);
        same("19: matter", x.firm(2, 0), VerandaTalk.NONE);
        same("19: below", x.firm(-1, 0), VerandaTalk.NONE);
        same("19: what", x.firm(0, 2), VerandaTalk.NONE);
        same("19: what below", x.firm(0, -1), VerandaTalk.NONE);
        same("19: nothing seen", x.firm(0, 0), 10);
        same("19: least of all", x.firm(0, 1), 0);
        x.see(0, 5, true);
        same("19: 5 or 4 an evening", x.firm(0, 0), 2);
        same("19: least", x.firm(0, 1), 0);
        x.see(0, 4, false);
        same("19: 4 an evening", x.firm(0, 0), 1);
        same("19: least", x.firm(0, 1), 1);
        same("19: by another one's v", x.firm(1, 0), 0);
        same("19: none", x.firm(1, 1), -5);
        x.see(-1, 0, false);
        x.see(0, 20, false);
        same("19: no topic", x.firm(0, 0), 5);
        same("19: least", x.firm(0, 1), 5);
        same("19: v stays", x.of(0, 1), 9);
        VerandaTalk y = with(0);
        Check.station(y, "due 9;warm 4 v=7");
        y.see(0, 1, true);
        same("19: v in a test", y.firm(0, 0), 1);
        same("19: least", y.firm(0, 1), 7);
    }

    private static void odds(VerandaTalk x, int n, long above, long below) {
        same("20: above behind " + n, x.odds(0, n, 0), above);
        same("20: below behind " + n, x.odds(0, n, 1), below);
    }

    private static void promise20Odds() {
        VerandaTalk x = with(0);
        same("20: matter", x.odds(1, 0, 0), NO);
        same("20: below", x.odds(-1, 0, 0), NO);
        same("20: n", x.odds(0, 61, 0), NO);
        same("20: n below", x.odds(0, -1, 0), NO);
        same("20: part", x.odds(0, 0, 2), NO);
        same("20: part below", x.odds(0, 0, -1), NO);
        odds(x, 0, 0, 1);
        odds(x, 1, 1, 6);
        odds(x, 2, 1, 3);
        odds(x, 5, 5, 6);
        odds(x, 6, 1, 1);
        odds(x, 60, 1, 1);
        Check.station(x, "due 0;warm 2 p=0");
        odds(x, 1, 7, 30);
        x.talk(0);
        odds(x, 0, 1, 1);
        same("20: due stays", x.told(1), 0);
    }

    private static void promise21Mean() {
        VerandaTalk x = new VerandaTalk();
        same("21: there are none", x.mean(0), NO);
        same("21: there are none", x.mean(1), NO);
        x.matter(0, 0);
        x.matter(0, 0);
        x.matter(0, 0);
        same("21: part", x.mean(2), NO);
        same("21: part below", x.mean(-1), NO);
        same("21: 0 above", x.mean(0), 0);
        same("21: 1 below", x.mean(1), 1);
        x.talk(0);
        x.talk(0);
        same("21: 10 thirds above", x.mean(0), 10);
        same("21: below", x.mean(1), 3);
        x.talk(1);
        same("21: 14 thirds", x.mean(0), 14);
        x.shelve(2, true);
        same("21: 7 above", x.mean(0), 7);
        same("21: 1 below", x.mean(1), 1);
        Check.station(x, "due 0");
        x.talk(0);
        same("21: 4 above", x.mean(0), 4);
        same("21: 1 below", x.mean(1), 1);
        same("21: of one above", x.mean(0), 4);
        x.talk(1);
        same("21: none open", x.mean(0), NO);
    }

    private static void promise22Plan() {
        VerandaTalk x = with(0);
        same("22: what", x.plan(4, 0), VerandaTalk.NONE);
        same("22: what below", x.plan(-2, 0), VerandaTalk.NONE);
        for (int what = 1; what <= 3; what++) {
            same("22: matter", x.plan(what, 1), VerandaTalk.NONE);
            same("22: matter below", x.plan(what, -1), VerandaTalk.NONE);
        }
        same("22: nothing came", x.count(3), 0);
        same("22: the other not looked at", x.plan(0, MOST), 1);
        for (int i = 2; i <= 8; i++) {
            same("22: how many", x.plan(i % 4, i % 4 == 0 ? -7 : 0), i);
        }
        same("22: full", x.plan(0, 0), VerandaTalk.FULL);
        same("22: what ahead of full", x.plan(4, 0), VerandaTalk.NONE);
        same("22: matter ahead of full", x.plan(1, 1), VerandaTalk.NONE);
        same("22: none then", x.plan(-1, LEAST), 0);
        same("22: none", x.count(3), 0);
        same("22: room again", x.plan(3, 0), 1);
    }

    private static void promise23Done() {
        VerandaTalk x = with(0, 0);
        same("23: what", x.done(2), VerandaTalk.NONE);
        same("23: below", x.done(-1), VerandaTalk.NONE);
        same("23: nothing planned", x.done(0), 0);
        Check.station(x, "due 10;warm 1 p=1");
        x.talk(-1);
        same("23: cost now", x.done(1), 2);
        x.plan(0, 0);
        x.plan(0, 0);
        same("23: topic twice", x.done(0), 2);
        same("23: cost", x.done(1), 5);
        x.plan(-1, 0);
        x.plan(1, 0);
        x.plan(1, 0);
        same("23: one twice", x.done(0), 1);
        x.plan(-1, 0);
        x.plan(2, 1);
        x.plan(0, 0);
        x.plan(0, 0);
        same("23: the other one shelved", x.done(0), 1);
        same("23: costs less", x.done(1), 3);
        x.plan(3, 1);
        x.plan(0, 0);
        x.plan(1, 1);
        same("23: and no more", x.done(0), 3);
        same("23: cost of all", x.done(1), 4);
        same("23: nothing went", x.told(0), 1);
        same("23: nothing is shelved", x.of(1, 5), 0);
        x.shelve(1, true);
        x.plan(-1, 0);
        x.plan(3, 1);
        x.plan(0, 0);
        x.plan(0, 0);
        same("23: one that was shelved", x.done(0), 2);
    }

    private static void promise24Book() {
        VerandaTalk x = with(0, 0);
        same("24: matter", x.book(2, 0), VerandaTalk.NONE);
        same("24: below", x.book(-2, 0), VerandaTalk.NONE);
        same("24: talked", x.book(0, 100), VerandaTalk.BAD);
        same("24: talked below", x.book(0, -1), VerandaTalk.BAD);
        same("24: matter ahead of talked", x.book(2, 100), VerandaTalk.NONE);
        same("24: nothing came", x.count(4), 0);
        for (int i = 1; i <= 8; i++) {
            same("24: how many", x.book(i % 2, i == 1 ? 99 : 0), i);
        }
        same("24: full", x.book(0, 0), VerandaTalk.FULL);
        same("24: talked ahead of full", x.book(0, 100), VerandaTalk.BAD);
        same("24: none then", x.book(-1, 100), 0);
        same("24: none", x.count(4), 0);
        same("24: room again", x.book(1, 0), 1);
    }

    private static void promise25Looked() {
        VerandaTalk x = with(0, 0);
        same("25: nothing booked", x.looked(), -5);
        x.book(0, 0);
        x.book(1, 0);
        x.book(0, 5);
        same("25: the first", x.looked(), 2);
        x.talk(1);
        same("25: an earlier one", x.looked(), 1);
        x.book(-1, 0);
        x.book(1, 5);
        x.book(0, 0);
        same("25: all as booked", x.looked(), -5);
        x.talk(-1);
        same("25: the first of all", x.looked(), 0);
    }

    /** An act, and the bodies that ran in it. */
    private static void act(VerandaTalk x, int matter, int act, int in, int out, int... bodies) {
        String call = "26: act(" + matter + ", " + act + ", " + in + ")";
        same(call, x.act(matter, act, in), out);
        same(call + " count", x.count(6), bodies.length);
        for (int i = 0; i < bodies.length; i++) {
            same(call + " trace " + i, x.trace(i), bodies[i]);
        }
        same(call + " trace behind", x.trace(bodies.length), VerandaTalk.NONE);
    }

    private static VerandaTalk sixKinds() {
        VerandaTalk x = new VerandaTalk();
        x.matter(6, 9);
        x.matter(1, 2);
        x.matter(2, 3);
        x.matter(3, 4);
        x.matter(4, 5);
        x.matter(5, 6);
        return x;
    }

    private static void promise26Act() {
        VerandaTalk x = sixKinds();
        act(x, 1, 0, 10, 31, 11, 1);
        act(x, 1, 1, 10, 29, 2, 11, 1);
        act(x, 1, 2, 10, 58, 3, 2, 11, 1);
        act(x, 2, 0, 10, 12, 1);
        act(x, 2, 1, 10, -9, 21, 2, 1);
        act(x, 2, 2, 10, -18, 3, 21, 2, 1);
        act(x, 3, 0, 10, 13, 1);
        act(x, 3, 1, 10, 9, 2, 1);
        act(x, 3, 2, 10, 18 ^ 7, 31, 3, 2, 1);
        act(x, 4, 0, 10, 34, 11, 1);
        act(x, 4, 1, 10, 29, 2, 11, 1);
        act(x, 4, 2, 10, (27 + 4 - 5) * 2 + 6 + 4, 41, 3, 2, 11, 1, 11, 1);
        act(x, 5, 0, 10, 15 ^ 5, 51, 1);
        act(x, 5, 1, 10, -(10 - 6), 21, 2, 51, 1);
        act(x, 5, 2, 10, -8, 3, 21, 2, 51, 1);
        act(x, 0, 0, 10, 10, 1);
        act(x, 0, 1, 10, 10, 61, 2, 1);
        act(x, 0, 2, 10, 20 ^ 7, 31, 3, 61, 2, 1);
        act(x, 1, 0, MOST, MOST * 3 + 1, 11, 1);
        act(x, 3, 2, LEAST, ((LEAST + 3 - 4) * 2) ^ 7, 31, 3, 2, 1);
        act(x, 4, 2, LEAST, ((LEAST - 1) * 3 + 4 - 5) * 2 + 10, 41, 3, 2, 11, 1, 11, 1);
        act(with(0), 0, 2, 7, 14, 3, 2, 1);
        act(x, 6, 0, 5, 0);
        act(x, 1, 0, 1, 4, 11, 1);
        act(x, -1, 0, 5, 0);
        act(x, 1, 0, 1, 4, 11, 1);
        act(x, 1, 3, 5, 0);
        act(x, 1, 0, 1, 4, 11, 1);
        act(x, 1, -1, 5, 0);
        same("26: changes nothing else", x.told(0), 0);
    }

    private static void promise27Trace() {
        VerandaTalk x = sixKinds();
        same("27: none yet", x.trace(0), VerandaTalk.NONE);
        x.act(4, 2, 0);
        same("27: first", x.trace(0), 41);
        same("27: last", x.trace(6), 1);
        same("27: behind", x.trace(7), VerandaTalk.NONE);
        same("27: below", x.trace(-1), VerandaTalk.NONE);
        same("27: far", x.trace(MOST), VerandaTalk.NONE);
        same("27: far below", x.trace(LEAST), VerandaTalk.NONE);
        x.act(2, 0, 0);
        same("27: of the latest alone", x.trace(1), VerandaTalk.NONE);
    }

    private static void promise28As() {
        VerandaTalk x = sixKinds();
        same("28: matter", x.as(6, 0), VerandaTalk.NONE);
        same("28: below", x.as(-1, 0), VerandaTalk.NONE);
        same("28: k", x.as(0, 7), VerandaTalk.NONE);
        same("28: k below", x.as(0, -1), VerandaTalk.NONE);
        int[][] kinds = {{0, 3, 6}, {0, 1}, {0, 2}, {0, 3}, {0, 1, 4}, {0, 2, 5}};
        int[] v = {9, 2, 3, 4, 5, 6};
        for (int i = 0; i < 6; i++) {
            for (int k = 0; k <= 6; k++) {
                boolean is = false;
                for (int kind : kinds[i]) {
                    is |= kind == k;
                }
                same("28: as(" + i + ", " + k + ")", x.as(i, k), is ? v[i] : -6);
            }
        }
        same("28: matter itself", with(0).as(0, 0), 0);
        same("28: not the other way", with(0).as(0, 1), -6);
    }

    private static void promise29Image() {
        VerandaTalk x = new VerandaTalk();
        same("29: none", x.image(), 0);
        x.matter(0, 1);
        x.matter(1, 1);
        same("29: undone to none", x.undo(), 0);
        same("29: no matters", x.count(0), 0);
        x.matter(2, 3);
        same("29: one", x.image(), 1);
        x.matter(3, 3);
        same("29: of another one", x.image(), 2);
        same("29: the newest", x.undo(), 2);
    }

    private static void promise30Undo() {
        VerandaTalk x = with(0, 6, 0);
        same("30: there is none", x.undo(), VerandaTalk.STATE);
        Check.station(x, "due 10;fade 2;warm 3 p=0");
        Check.feed(x, "due 3");
        x.talk(0);
        x.tie(2, 1, true);
        x.shelve(1, true);
        x.row(1, 1, 4);
        x.see(0, 3, true);
        x.plan(0, 0);
        x.book(0, 8);
        x.act(2, 1, 1);
        same("30: image", x.image(), 3);
        for (int round = 0; round < 2; round++) {
            x.matter(4, 9);
            x.station();
            x.talk(0);
            x.tie(2, 1, false);
            x.tie(0, 1, true);
            x.shelve(1, false);
            x.row(1, 1, 9);
            x.reopen(0);
            x.pass(7);
            x.see(-1, 0, true);
            x.plan(1, 1);
            x.book(1, 1);
            x.feed('x');
            x.act(1, 2, 1);
            same("30: undo", x.undo(), 3);
            same("30: evening", x.told(0), 1);
            same("30: due", x.told(1), 10);
            same("30: fade", x.told(2), 2);
            same("30: cost", x.told(3), 3);
            same("30: settled", x.told(4), 0);
            same("30: talked", x.of(0, 3), 8);
            same("30: age", x.of(1, 2), 1);
            same("30: stir", x.of(0, 7), 8);
            same("30: ties", x.of(2, 8), 2);
            same("30: ties of another", x.of(0, 8), 0);
            same("30: shelved", x.of(1, 5), 1);
            same("30: row", x.of(1, 7), 9);
            same("30: stations", x.count(1), 1);
            same("30: seen", x.count(2), 1);
            same("30: least due of seen", x.dues(1), 1);
            same("30: plan", x.count(3), 1);
            same("30: book", x.count(4), 1);
            same("30: looked", x.looked(), -5);
            same("30: tape", x.count(5), 5);
            same("30: the trace is not in it", x.count(6), 5);
            same("30: its bodies", x.trace(0), 31);
            same("30: matters", x.of(3, 0), -999999);
        }
        same("30: the tape is read on", x.station(), 1);
        same("30: its due", x.told(1), 3);
    }

    private static void promise31Count() {
        VerandaTalk x = with(0, 0);
        same("31: what", x.count(7), VerandaTalk.NONE);
        same("31: below", x.count(-1), VerandaTalk.NONE);
        same("31: far", x.count(MOST), VerandaTalk.NONE);
        Check.station(x, "due 1");
        x.see(0, 0, true);
        x.see(0, 0, true);
        x.see(0, 0, true);
        for (int i = 0; i < 4; i++) {
            x.plan(0, 0);
        }
        for (int i = 0; i < 5; i++) {
            x.book(0, 0);
        }
        Check.feed(x, "due 12");
        x.act(0, 2, 0);
        int[] counts = {2, 1, 3, 4, 5, 6, 3};
        for (int what = 0; what < counts.length; what++) {
            same("31: count(" + what + ")", x.count(what), counts[what]);
        }
    }
}
