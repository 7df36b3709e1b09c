import java.util.ArrayList;
import java.util.List;

/** The FAULT by its words: the first byte with which no STATION can go on, found by trying how to. */
final class Faults {
    private static final List<String> ENDS = ends();

    private Faults() {
    }

    /** The FAULT of a text, or -1. */
    static int of(String text) {
        if (isStation(text)) {
            return -1;
        }
        int can = 0;
        int cannot = text.length() + 1;
        // what is ahead of a beginning of a station is one, too
        while (cannot - can > 1) {
            int middle = (can + cannot) / 2;
            if (canGoOn(text.substring(0, middle))) {
                can = middle;
            } else {
                cannot = middle;
            }
        }
        return can;
    }

    private static boolean canGoOn(String begun) {
        for (String end : ENDS) {
            if (isStation(begun + end)) {
                return true;
            }
        }
        return false;
    }

    /** Each way in which a clause can end, with as many ) as can be open. */
    private static List<String> ends() {
        List<String> ends = new ArrayList<>();
        for (String close : new String[] {"", ")", "))", ")))", "))))", ")))))"}) {
            for (String clause : new String[] {"warm 0 p=0", "cool 0 p=0", "fade 0", "due 0"}) {
                for (int i = 0; i <= clause.length(); i++) {
                    ends.add(clause.substring(i) + close);
                }
            }
        }
        return ends;
    }

    static boolean isStation(String text) {
        String[] clauses = text.split(";", -1);
        if (clauses.length > 10) {
            return false;
        }
        for (String clause : clauses) {
            if (!isClause(clause)) {
                return false;
            }
        }
        return true;
    }

    private static boolean isClause(String clause) {
        String number = "(0|[1-9][0-9]?)";
        if (clause.matches("(due|fade) " + number)) {
            return true;
        }
        if (!clause.matches("(warm|cool) " + number + " [^ ]+")) {
            return false;
        }
        String e = clause.substring(clause.lastIndexOf(' ') + 1);
        // only what the words of tests leave may be a digit below
        if (e.matches(".*(^|[^<=>0-9])[0-9].*")) {
            return false;
        }
        return isE(e.replaceAll("[pkvane][<=>]" + number + "(?![0-9])", "0"));
    }

    /** Each F in it becomes the number of those that are open in it, till none is left. */
    private static boolean isE(String e) {
        String left = e;
        for (int round = 0; round < 100; round++) {
            String next = left;
            for (int deep = 0; deep <= 8; deep++) {
                next = next.replace("!" + deep, Integer.toString(Math.min(9, deep + 1)));
            }
            next = next.replace("!9", "9");
            java.util.regex.Matcher group = java.util.regex.Pattern.compile("\\(([0-9]([&|][0-9])*)\\)").matcher(next);
            StringBuilder joined = new StringBuilder();
            while (group.find()) {
                int deepest = 0;
                for (char sign : group.group(1).toCharArray()) {
                    deepest = Character.isDigit(sign) ? Math.max(deepest, sign - '0') : deepest;
                }
                group.appendReplacement(joined, Integer.toString(Math.min(9, deepest + 1)));
            }
            group.appendTail(joined);
            if (joined.toString().equals(left)) {
                break;
            }
            left = joined.toString();
        }
        return left.matches("[0-5]([&|][0-5])*");
    }
}
