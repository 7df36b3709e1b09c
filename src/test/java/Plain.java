import java.util.ArrayList;
import java.util.List;
import java.util.TreeSet;

/**
 * The document once more, written as plainly as it goes and in no haste: states are copied whole,
 * texts are read where they are asked, and what is best is found by trying all.
 */
final class Plain {
    static final class Matter {
        int kind;
        int v;
        int age;
        int talked;
        boolean settled;
        boolean shelved;
        int[] row = new int[4];
        TreeSet<Integer> ties = new TreeSet<>();

        Matter copy() {
            Matter c = new Matter();
            c.kind = kind;
            c.v = v;
            c.age = age;
            c.talked = talked;
            c.settled = settled;
            c.shelved = shelved;
            c.row = row.clone();
            c.ties = new TreeSet<>(ties);
            return c;
        }

        boolean open() {
            return !settled && !shelved;
        }
    }

    static final class All {
        List<Matter> matters = new ArrayList<>();
        List<String> stations = new ArrayList<>();
        String tape = "";
        int evening;
        long cost;
        List<int[]> seen = new ArrayList<>();
        List<int[]> plan = new ArrayList<>();
        List<int[]> book = new ArrayList<>();
        /** What DUE is taken to be, or -1 as the station says. */
        int otherDue = -1;

        All copy() {
            All c = new All();
            for (Matter m : matters) {
                c.matters.add(m.copy());
            }
            c.stations = new ArrayList<>(stations);
            c.tape = tape;
            c.evening = evening;
            c.cost = cost;
            c.seen = new ArrayList<>(seen);
            c.plan = new ArrayList<>(plan);
            c.book = new ArrayList<>(book);
            c.otherDue = otherDue;
            return c;
        }

        String[] clauses() {
            return stations.isEmpty() ? new String[0] : stations.get(stations.size() - 1).split(";");
        }

        int last(String word, int without) {
            int n = without;
            for (String clause : clauses()) {
                if (clause.startsWith(word + " ")) {
                    n = Integer.parseInt(clause.substring(word.length() + 1));
                }
            }
            return n;
        }

        int due() {
            return otherDue >= 0 ? otherDue : last("due", 20);
        }

        int unsettledUnder(Matter m) {
            int n = 0;
            for (int other : m.ties) {
                n += matters.get(other).settled ? 0 : 1;
            }
            return n;
        }

        boolean ready(int p) {
            Matter m = matters.get(p);
            return m.open() && unsettledUnder(m) == 0;
        }

        int settledBits() {
            int bits = 0;
            for (int p = 0; p < matters.size(); p++) {
                bits += matters.get(p).settled ? 1 << p : 0;
            }
            return bits;
        }

        int sum(int p) {
            int sum = 5;
            for (String clause : clauses()) {
                String[] parts = clause.split(" ");
                if (parts.length == 3 && new Holds(this, p, parts[2]).all()) {
                    sum += (parts[0].equals("warm") ? 1 : -1) * Integer.parseInt(parts[1]);
                }
            }
            return sum;
        }

        int stir(int p) {
            Matter m = matters.get(p);
            int sum = sum(p);
            int marriage = m.age >= 10 ? (int) (sum / 2.0) : sum;
            int boundary = sum - m.v;
            int loan = sum;
            for (int q = 0; q < matters.size(); q++) {
                loan += q != p && matters.get(q).settled ? 1 : 0;
            }
            int possible = evening % 2 == 1 ? 0 : marriage;
            int frontier = m.ties.isEmpty() ? 2 * boundary : boundary;
            int told = loan + m.row[evening % 4];
            return new int[] {sum, marriage, boundary, loan, possible, frontier, told}[m.kind];
        }

        int topic() {
            int topic = -5;
            for (int p = 0; p < matters.size(); p++) {
                if (ready(p) && stir(p) > 0 && (topic < 0 || stir(p) > stir(topic))) {
                    topic = p;
                }
            }
            return topic;
        }

        void evening(int talk) {
            All ahead = copy();
            for (int p = 0; p < matters.size(); p++) {
                Matter m = matters.get(p);
                if (p == talk && ahead.ready(p)) {
                    m.talked = Math.min(99, m.talked + Math.max(0, ahead.stir(p)));
                    m.settled = m.talked >= due();
                } else if (ahead.matters.get(p).open()) {
                    m.talked = Math.max(0, m.talked - last("fade", 1));
                }
            }
            for (Matter m : matters) {
                m.age += m.settled ? 0 : 1;
                cost += m.open() ? 1 : 0;
            }
            evening++;
        }

        All behind(int n) {
            All then = copy();
            for (int e = 0; e < n; e++) {
                then.evening(then.topic());
            }
            return then;
        }

        TreeSet<Integer> net(int p) {
            TreeSet<Integer> net = new TreeSet<>();
            List<Integer> todo = new ArrayList<>(matters.get(p).ties);
            while (!todo.isEmpty()) {
                int q = todo.remove(0);
                if (!matters.get(q).settled && net.add(q)) {
                    todo.addAll(matters.get(q).ties);
                }
            }
            return net;
        }

        int ring() {
            int bits = 0;
            for (int p = 0; p < matters.size(); p++) {
                boolean is = false;
                for (int q : net(p)) {
                    is |= net(q).contains(q);
                }
                bits += is ? 1 << p : 0;
            }
            return bits;
        }

        /** Drops one tie more and more till no ring is left. */
        int loose() {
            for (int drops = 0;; drops++) {
                if (canLoose(drops)) {
                    return drops;
                }
            }
        }

        /** One tie of some ring has to go: it tries those of the first ring that it finds. */
        boolean canLoose(int drops) {
            List<Integer> circle = circle();
            if (circle.isEmpty()) {
                return true;
            }
            if (drops == 0) {
                return false;
            }
            for (int i = 0; i < circle.size(); i++) {
                Matter from = matters.get(circle.get(i));
                Integer to = circle.get((i + 1) % circle.size());
                from.ties.remove(to);
                boolean can = canLoose(drops - 1);
                from.ties.add(to);
                if (can) {
                    return true;
                }
            }
            return false;
        }

        /** Some shortest way of ties from one unsettled matter to itself. */
        List<Integer> circle() {
            List<List<Integer>> ways = new ArrayList<>();
            for (int p = 0; p < matters.size(); p++) {
                if (!matters.get(p).settled) {
                    ways.add(List.of(p));
                }
            }
            for (int i = 0; i < ways.size(); i++) {
                List<Integer> way = ways.get(i);
                for (int next : matters.get(way.get(way.size() - 1)).ties) {
                    if (next == way.get(0)) {
                        return way;
                    }
                    if (!matters.get(next).settled && !way.contains(next)) {
                        List<Integer> longer = new ArrayList<>(way);
                        longer.add(next);
                        ways.add(longer);
                    }
                }
            }
            return List.of();
        }
    }

    /** Whether an E holds, read from its text. */
    static final class Holds {
        final All all;
        final int p;
        final String text;
        int at;

        Holds(All all, int p, String text) {
            this.all = all;
            this.p = p;
            this.text = text;
        }

        boolean all() {
            boolean is = both();
            while (at < text.length() && text.charAt(at) == '|') {
                at++;
                is |= both();
            }
            return is;
        }

        boolean both() {
            boolean is = one();
            while (at < text.length() && text.charAt(at) == '&') {
                at++;
                is &= one();
            }
            return is;
        }

        boolean one() {
            char sign = text.charAt(at++);
            if (sign == '!') {
                return !one();
            }
            if (sign == '(') {
                boolean is = all();
                at++;
                return is;
            }
            char order = text.charAt(at++);
            int from = at;
            while (at < text.length() && Character.isDigit(text.charAt(at))) {
                at++;
            }
            int n = Integer.parseInt(text.substring(from, at));
            Matter m = all.matters.get(p);
            int is = switch (sign) {
                case 'p' -> p;
                case 'k' -> m.kind;
                case 'v' -> m.v;
                case 'a' -> m.age % 10;
                case 'n' -> all.unsettledUnder(m);
                default -> all.evening % 10;
            };
            return order == '<' ? is < n : order == '=' ? is == n : is > n;
        }
    }

    All now = new All();
    All image;
    List<Integer> ran = new ArrayList<>();

    boolean is(int matter) {
        return matter >= 0 && matter < now.matters.size();
    }

    int feed(int sign) {
        if (sign < 0 || sign > 127) {
            return -2;
        }
        if (now.tape.length() == 100) {
            return -4;
        }
        now.tape += (char) sign;
        return now.tape.length();
    }

    int station() {
        if (now.stations.size() == 5) {
            return -4;
        }
        String text = now.tape;
        now.tape = "";
        int fault = Faults.of(text);
        if (fault >= 0) {
            return -10 - fault;
        }
        now.stations.add(text);
        return now.stations.size() - 1;
    }

    int matter(int kind, int v) {
        if (kind < 0 || kind > 6) {
            return -1;
        }
        if (v < 0 || v > 9) {
            return -2;
        }
        if (now.matters.size() == 6) {
            return -4;
        }
        Matter m = new Matter();
        m.kind = kind;
        m.v = v;
        now.matters.add(m);
        return now.matters.size() - 1;
    }

    int of(int matter, int what) {
        if (!is(matter) || what < 0 || what > 8) {
            return -999999;
        }
        Matter m = now.matters.get(matter);
        int bits = 0;
        for (int other : m.ties) {
            bits |= 1 << other;
        }
        return new int[] {m.kind, m.v, m.age, m.talked, m.settled ? 1 : 0, m.shelved ? 1 : 0,
            now.ready(matter) ? 1 : 0, now.stir(matter), bits}[what];
    }

    int row(int matter, int k, int n) {
        if (!is(matter) || k < 0 || k > 3) {
            return -1;
        }
        if (n < 0 || n > 9) {
            return -2;
        }
        Matter m = now.matters.get(matter);
        if (m.kind != 6) {
            return -3;
        }
        int was = m.row[k];
        m.row[k] = n;
        return was;
    }

    int tie(int matter, int other, boolean is) {
        if (!is(matter) || !is(other)) {
            return -1;
        }
        if (matter == other) {
            return -2;
        }
        TreeSet<Integer> ties = now.matters.get(matter).ties;
        boolean was = is ? !ties.add(other) : ties.remove(other);
        return was ? 1 : 0;
    }

    int shelve(int matter, boolean is) {
        if (!is(matter)) {
            return -1;
        }
        Matter m = now.matters.get(matter);
        boolean was = m.shelved;
        m.shelved = is;
        return was ? 1 : 0;
    }

    int reopen(int matter) {
        if (!is(matter)) {
            return -1;
        }
        Matter m = now.matters.get(matter);
        boolean was = m.settled;
        m.settled = false;
        m.talked = 0;
        m.age = 0;
        return was ? 1 : 0;
    }

    int told(int what) {
        int ready = 0;
        for (int p = 0; p < now.matters.size(); p++) {
            ready += now.ready(p) ? 1 << p : 0;
        }
        return switch (what) {
            case 0 -> now.evening;
            case 1 -> now.due();
            case 2 -> now.last("fade", 1);
            case 3 -> (int) now.cost;
            case 4 -> now.settledBits();
            case 5 -> ready;
            case 6 -> now.topic();
            case 7 -> now.ring();
            case 8 -> now.loose();
            default -> -1;
        };
    }

    /** A true evening, behind which AGE and COST are held. */
    void evening(int talk) {
        now.evening(talk);
        now.cost = Math.min(999999, now.cost);
        for (Matter m : now.matters) {
            m.age = Math.min(9999, m.age);
        }
    }

    int talk(int matter) {
        if (matter != -1 && !is(matter)) {
            return -1;
        }
        if (now.evening == 9999) {
            return -3;
        }
        evening(matter);
        return now.settledBits();
    }

    int pass(int n) {
        if (n < 0 || n > 60) {
            return -2;
        }
        if (now.evening + n > 9999) {
            return -3;
        }
        for (int e = 0; e < n; e++) {
            evening(-1);
        }
        return now.evening;
    }

    int on(int n, int what) {
        if (what != 0 && what != 1 && (what < 10 || !is(what - 10))) {
            return -1;
        }
        if (n < 0 || n > 60) {
            return -2;
        }
        All then = now.behind(n);
        return what == 0 ? then.settledBits() : what == 1 ? (int) then.cost : then.matters.get(what - 10).talked;
    }

    int when(int matter) {
        if (!is(matter)) {
            return -1;
        }
        All then = now.copy();
        for (int n = 0; n <= 60; n++) {
            if (then.matters.get(matter).settled) {
                return n;
            }
            then.evening(then.topic());
        }
        return -5;
    }

    int agenda(int n, int what) {
        if (what != 0 && what != 1 && (what < 10 || what > 13)) {
            return -1;
        }
        if (n < 1 || n > 4) {
            return -2;
        }
        int[] best = null;
        for (int number = 0; number < Math.pow(10, n); number++) {
            int[] row = new int[n];
            int rest = number;
            boolean can = true;
            for (int k = n - 1; k >= 0; k--) {
                row[k] = rest % 10;
                rest /= 10;
                can &= row[k] == 9 || is(row[k]);
            }
            if (!can) {
                continue;
            }
            All then = now.copy();
            for (int talk : row) {
                then.evening(talk == 9 ? -1 : talk);
            }
            int settled = Integer.bitCount(then.settledBits());
            int more = (int) (then.cost - now.cost);
            if (best == null || settled > best[0] || settled == best[0] && more < best[1]) {
                best = new int[14];
                java.util.Arrays.fill(best, -5);
                best[0] = settled;
                best[1] = more;
                System.arraycopy(row, 0, best, 10, n);
            }
        }
        return best[what];
    }

    int net(int matter) {
        if (!is(matter)) {
            return -1;
        }
        int bits = 0;
        for (int p : now.net(matter)) {
            bits |= 1 << p;
        }
        return bits;
    }

    int see(int matter, int n, boolean isSettled) {
        if (matter == -1) {
            now.seen.clear();
            return 0;
        }
        if (!is(matter)) {
            return -1;
        }
        if (n < 0 || n > 20) {
            return -2;
        }
        if (now.seen.size() == 5) {
            return -4;
        }
        now.seen.add(new int[] {matter, n, isSettled ? 1 : 0});
        return now.seen.size();
    }

    static boolean allSo(All from) {
        for (int[] seen : from.seen) {
            if (from.behind(seen[1]).matters.get(seen[0]).settled != (seen[2] == 1)) {
                return false;
            }
        }
        return true;
    }

    int dues(int what) {
        List<Integer> so = new ArrayList<>();
        for (int due = 1; due <= 60; due++) {
            All from = now.copy();
            from.otherDue = due;
            if (allSo(from)) {
                so.add(due);
            }
        }
        return howManyOrLeast(so, what);
    }

    int firm(int matter, int what) {
        if (!is(matter)) {
            return -1;
        }
        List<Integer> so = new ArrayList<>();
        for (int v = 0; v <= 9; v++) {
            All from = now.copy();
            from.matters.get(matter).v = v;
            if (allSo(from)) {
                so.add(v);
            }
        }
        return howManyOrLeast(so, what);
    }

    static int howManyOrLeast(List<Integer> so, int what) {
        if (what == 0) {
            return so.size();
        }
        return what != 1 ? -1 : so.isEmpty() ? -5 : so.get(0);
    }

    static long part(long above, long below, int part) {
        for (long by = below; by > 1; by--) {
            if (above % by == 0 && below % by == 0) {
                above /= by;
                below /= by;
            }
        }
        return part == 0 ? above : below;
    }

    long odds(int matter, int n, int part) {
        if (!is(matter) || n < 0 || n > 60 || part < 0 || part > 1) {
            return Long.MIN_VALUE;
        }
        int so = 0;
        for (int due = 1; due <= 30; due++) {
            All from = now.copy();
            from.otherDue = due;
            so += from.behind(n).matters.get(matter).settled ? 1 : 0;
        }
        return part(so, 30, part);
    }

    long mean(int part) {
        int sum = 0;
        int open = 0;
        for (Matter m : now.matters) {
            sum += m.open() ? m.talked : 0;
            open += m.open() ? 1 : 0;
        }
        return part < 0 || part > 1 || open == 0 ? Long.MIN_VALUE : part(sum, open, part);
    }

    int plan(int what, int matter) {
        if (what == -1) {
            now.plan.clear();
            return 0;
        }
        if (what < 0 || what > 3 || what > 0 && !is(matter)) {
            return -1;
        }
        if (now.plan.size() == 8) {
            return -4;
        }
        now.plan.add(new int[] {what, matter});
        return now.plan.size();
    }

    int done(int what) {
        All then = now.copy();
        for (int[] row : now.plan) {
            if (row[0] == 0) {
                then.evening(then.topic());
            } else if (row[0] == 1) {
                then.evening(row[1]);
            } else {
                then.matters.get(row[1]).shelved = row[0] == 2;
            }
        }
        return what == 0 ? then.settledBits() : what == 1 ? (int) then.cost : -1;
    }

    int book(int matter, int talked) {
        if (matter == -1) {
            now.book.clear();
            return 0;
        }
        if (!is(matter)) {
            return -1;
        }
        if (talked < 0 || talked > 99) {
            return -2;
        }
        if (now.book.size() == 8) {
            return -4;
        }
        now.book.add(new int[] {matter, talked});
        return now.book.size();
    }

    int looked() {
        for (int i = 0; i < now.book.size(); i++) {
            if (now.matters.get(now.book.get(i)[0]).talked != now.book.get(i)[1]) {
                return i;
            }
        }
        return -5;
    }

    static final int[] ABOVE = {-1, 0, 0, 0, 1, 2, 3};

    /** The body of an act for a KIND: its number, or 0 if that has none. */
    static int bodyOf(int kind, int act) {
        return switch (kind * 10 + act) {
            case 0 -> 1;
            case 1 -> 2;
            case 2 -> 3;
            case 10 -> 11;
            case 21 -> 21;
            case 32 -> 31;
            case 42 -> 41;
            case 50 -> 51;
            case 61 -> 61;
            default -> 0;
        };
    }

    /** An act by the first body from a KIND on upwards. */
    int run(int i, int from, int act, int x) {
        int kind = from;
        while (bodyOf(kind, act) == 0) {
            kind = ABOVE[kind];
        }
        int body = bodyOf(kind, act);
        ran.add(body);
        Matter m = now.matters.get(i);
        int above = ABOVE[kind];
        return switch (body) {
            case 1 -> x + i;
            case 2 -> run(i, m.kind, 0, x) - m.v;
            case 3 -> run(i, m.kind, 1, x) * 2;
            case 11 -> run(i, above, 0, x * 3);
            case 21 -> -run(i, above, 1, x);
            case 31 -> run(i, above, 2, x) ^ 7;
            case 41 -> run(i, above, 2, x - 1) + run(i, m.kind, 0, 2);
            case 51 -> run(i, above, 0, x) ^ i;
            default -> run(i, above, 1, x) + m.v;
        };
    }

    int act(int matter, int act, int x) {
        ran.clear();
        return is(matter) && act >= 0 && act <= 2 ? run(matter, now.matters.get(matter).kind, act, x) : 0;
    }

    int trace(int i) {
        return i >= 0 && i < Math.min(20, ran.size()) ? ran.get(i) : -1;
    }

    int as(int matter, int k) {
        if (!is(matter) || k < 0 || k > 6) {
            return -1;
        }
        Matter m = now.matters.get(matter);
        for (int kind = m.kind; kind >= 0; kind = ABOVE[kind]) {
            if (kind == k) {
                return m.v;
            }
        }
        return -6;
    }

    int image() {
        image = now.copy();
        return now.matters.size();
    }

    int undo() {
        if (image == null) {
            return -3;
        }
        now = image.copy();
        return now.matters.size();
    }

    int count(int what) {
        int[] counts = {now.matters.size(), now.stations.size(), now.seen.size(), now.plan.size(),
            now.book.size(), now.tape.length(), ran.size()};
        return what >= 0 && what < counts.length ? counts[what] : -1;
    }
}
