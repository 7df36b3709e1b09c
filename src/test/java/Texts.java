import java.util.Random;

/** Texts of stations, some of them with a FAULT. */
final class Texts {
    private Texts() {
    }

    static String station(Random random) {
        StringBuilder text = new StringBuilder();
        int clauses = random.nextInt(10) == 0 ? 9 + random.nextInt(3) : 1 + random.nextInt(5);
        for (int i = 0; i < clauses; i++) {
            text.append(i == 0 ? "" : ";").append(clause(random, clauses > 6));
        }
        if (random.nextInt(4) == 0) {
            spoil(text, random);
        }
        return text.substring(0, Math.min(text.length(), 100));
    }

    private static String clause(Random random, boolean isShort) {
        int kind = random.nextInt(10);
        if (kind < 2 || isShort) {
            return "due " + (random.nextInt(4) > 0 ? random.nextInt(30) : random.nextInt(100));
        }
        if (kind < 4) {
            return "fade " + (random.nextInt(4) > 0 ? random.nextInt(5) : random.nextInt(100));
        }
        int n = random.nextInt(4) > 0 ? random.nextInt(10) : random.nextInt(100);
        return (kind < 7 ? "warm " : "cool ") + n + " " + e(random, 0);
    }

    private static String e(Random random, int open) {
        StringBuilder text = new StringBuilder(part(random, open));
        for (int i = random.nextInt(3); i > 0; i--) {
            text.append(random.nextBoolean() ? '|' : '&').append(part(random, open));
        }
        return text.toString();
    }

    /** At times with more open than can be. */
    private static String part(Random random, int open) {
        int kind = random.nextInt(10);
        if (open < 7 && kind < 3) {
            return "!" + part(random, open + 1);
        }
        if (open < 7 && kind < 5) {
            return "(" + e(random, open + 1) + ")";
        }
        int n = random.nextInt(5) > 0 ? random.nextInt(8) : random.nextInt(100);
        return "" + "pkvane".charAt(random.nextInt(6)) + "<=>".charAt(random.nextInt(3)) + n;
    }

    static void spoil(StringBuilder text, Random random) {
        String signs = "duefarmcowl 0123456789;pkvane<=>!()&|x";
        int at = random.nextInt(text.length());
        char sign = signs.charAt(random.nextInt(signs.length()));
        switch (random.nextInt(4)) {
            case 0 -> text.setCharAt(at, sign);
            case 1 -> text.insert(at, sign);
            case 2 -> text.deleteCharAt(at);
            default -> text.setLength(at);
        }
    }
}
