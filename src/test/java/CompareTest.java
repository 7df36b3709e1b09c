import java.util.Random;

/** Long runs of calls, each answer beside that of the plain program. The runs are always the same. */
public final class CompareTest {
    private static final int RUNS = 300, CALLS = 512;
    private static final int[] FAR = {Integer.MIN_VALUE, Integer.MIN_VALUE + 1, -1000000, -999999, 61, 100, 1000,
        9999, 1 << 30, Integer.MAX_VALUE - 10, Integer.MAX_VALUE};
    private static final Check CHECK = new Check();

    private final Random random;
    private final VerandaTalk x = new VerandaTalk();
    private final Plain y = new Plain();
    /** How often in a hundred calls a number is far from all that is told. */
    private final int wild;
    private final StringBuilder calls = new StringBuilder();
    private int called = 0;
    private String text = "";

    private CompareTest(long seed) {
        random = new Random(seed);
        wild = random.nextInt(4) == 0 ? 8 : 1;
    }

    public static void main(String[] args) {
        for (int run = 0; run < RUNS && !CHECK.isWrong(); run++) {
            CompareTest one = new CompareTest(run);
            one.run();
            if (CHECK.isWrong()) {
                System.out.println("in run " + run + ":\n" + one.calls);
            }
        }
        CHECK.end();
    }

    private void run() {
        for (int i = random.nextInt(7); i > 0; i--) {
            matter();
        }
        if (random.nextInt(20) == 0) {
            for (int i = 0; i < 166; i++) {
                same("pass", x.pass(60), y.pass(60), 60);
            }
            same("pass", x.pass(35), y.pass(35), 35);
        }
        while (called < CALLS && !CHECK.isWrong()) {
            if (!text.isEmpty()) {
                int sign = text.charAt(0);
                text = text.substring(1);
                same("feed", x.feed(sign), y.feed(sign), sign);
                if (text.isEmpty()) {
                    same("station", x.station(), y.station());
                }
            } else if (random.nextInt(3) > 0) {
                change(random.nextInt(100));
            } else {
                ask(random.nextInt(100));
            }
        }
    }

    private void same(String name, long got, long want, Object... arguments) {
        called++;
        StringBuilder call = new StringBuilder(name).append('(');
        for (int i = 0; i < arguments.length; i++) {
            call.append(i == 0 ? "" : ", ").append(arguments[i]);
        }
        call.append(')');
        calls.append(call).append(" = ").append(want).append('\n');
        CHECK.same(call.toString(), got, want);
    }

    /** Mostly from least to most, at times one beyond, and at times far from it. */
    private int number(int least, int most) {
        int kind = random.nextInt(100);
        if (kind < wild) {
            return FAR[random.nextInt(FAR.length)];
        }
        if (kind < 2 * wild) {
            return random.nextBoolean() ? least - 1 : most + 1;
        }
        return least + random.nextInt(most - least + 1);
    }

    private int one() {
        return number(0, Math.max(0, y.now.matters.size() - 1));
    }

    private void matter() {
        int kind = number(0, 6);
        int v = number(0, 9);
        same("matter", x.matter(kind, v), y.matter(kind, v), kind, v);
    }

    private void change(int kind) {
        if (kind < 4) {
            matter();
        } else if (kind < 6) {
            text = Texts.station(random);
        } else if (kind < 7) {
            int sign = number(0, 127);
            same("feed", x.feed(sign), y.feed(sign), sign);
        } else if (kind < 12) {
            int m = one();
            int k = number(0, 3);
            int n = number(0, 9);
            same("row", x.row(m, k, n), y.row(m, k, n), m, k, n);
        } else if (kind < 24) {
            int m = one();
            int other = one();
            boolean is = random.nextInt(3) > 0;
            same("tie", x.tie(m, other, is), y.tie(m, other, is), m, other, is);
        } else if (kind < 30) {
            int m = one();
            boolean is = random.nextBoolean();
            same("shelve", x.shelve(m, is), y.shelve(m, is), m, is);
        } else if (kind < 36) {
            int m = one();
            same("reopen", x.reopen(m), y.reopen(m), m);
        } else if (kind < 56) {
            int topic = y.now.topic();
            int m = topic >= 0 && random.nextInt(3) > 0 ? topic : one();
            same("talk", x.talk(m), y.talk(m), m);
        } else if (kind < 60) {
            int n = random.nextInt(4) > 0 ? number(0, 5) : number(0, 60);
            same("pass", x.pass(n), y.pass(n), n);
        } else {
            tellByHand(kind);
        }
    }

    private void tellByHand(int kind) {
        if (kind < 66) {
            int m = random.nextInt(8) == 0 ? -1 : one();
            int n = number(0, 20);
            boolean is = random.nextInt(3) == 0;
            same("see", x.see(m, n, is), y.see(m, n, is), m, n, is);
        } else if (kind < 76) {
            int what = random.nextInt(12) == 0 ? -1 : number(0, 3);
            int m = one();
            same("plan", x.plan(what, m), y.plan(what, m), what, m);
        } else if (kind < 84) {
            int m = random.nextInt(12) == 0 ? -1 : one();
            int talked = y.is(m) && random.nextInt(3) > 0 ? y.now.matters.get(m).talked : number(0, 99);
            same("book", x.book(m, talked), y.book(m, talked), m, talked);
        } else if (kind < 94) {
            int m = one();
            int act = number(0, 2);
            int in = random.nextBoolean() ? random.nextInt(40) - 20 : random.nextInt();
            same("act", x.act(m, act, in), y.act(m, act, in), m, act, in);
        } else if (kind < 97) {
            same("image", x.image(), y.image());
        } else if (kind < 99) {
            same("undo", x.undo(), y.undo());
        } else {
            same("station", x.station(), y.station());
        }
    }

    private void ask(int kind) {
        int m = one();
        int part = number(0, 1);
        if (kind < 16) {
            int what = number(0, 8);
            same("of", x.of(m, what), y.of(m, what), m, what);
        } else if (kind < 32) {
            int what = number(0, 8);
            same("told", x.told(what), y.told(what), what);
        } else if (kind < 42) {
            int what = random.nextBoolean() ? number(0, 1) : number(10, 15);
            int n = number(0, 60);
            same("on", x.on(n, what), y.on(n, what), n, what);
        } else if (kind < 48) {
            same("when", x.when(m), y.when(m), m);
        } else if (kind < 54) {
            int what = random.nextBoolean() ? number(0, 1) : number(10, 13);
            int n = random.nextInt(8) > 0 ? number(1, 3) : number(1, 4);
            same("agenda", x.agenda(n, what), y.agenda(n, what), n, what);
        } else if (kind < 60) {
            same("net", x.net(m), y.net(m), m);
        } else if (kind < 65) {
            same("dues", x.dues(part), y.dues(part), part);
        } else if (kind < 71) {
            same("firm", x.firm(m, part), y.firm(m, part), m, part);
        } else if (kind < 74) {
            int n = number(0, 60);
            same("odds", x.odds(m, n, part), y.odds(m, n, part), m, n, part);
        } else if (kind < 78) {
            same("mean", x.mean(part), y.mean(part), part);
        } else if (kind < 84) {
            same("done", x.done(part), y.done(part), part);
        } else if (kind < 88) {
            same("looked", x.looked(), y.looked());
        } else if (kind < 92) {
            int i = number(0, 7);
            same("trace", x.trace(i), y.trace(i), i);
        } else if (kind < 96) {
            int k = number(0, 6);
            same("as", x.as(m, k), y.as(m, k), m, k);
        } else {
            int what = number(0, 6);
            same("count", x.count(what), y.count(what), what);
        }
    }
}
