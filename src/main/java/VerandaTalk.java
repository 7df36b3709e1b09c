/**
 * Matters that are left open and are talked of evening by evening till they are settled.
 *
 * <p>The face checks what it is given and refuses; {@link Veranda} is how all is and how an EVENING
 * goes; {@link Asked} goes on from a copy of that; {@link Hand} keeps what is told by hand; {@link
 * Station} reads the tape and holds its clauses; {@link Matter} and those under it are the KINDS.
 */
public final class VerandaTalk {
    public static final int NONE = -1, BAD = -2, STATE = -3, FULL = -4;
    public static final long NO = Long.MIN_VALUE;

    private static final int NOT_ANY = -5, OTHER_KIND = -6, FAULTY = -10, NONE_BELOW = -999999;
    private static final int KINDS = 7, TOLD_KIND = 6;
    private static final int MATTERS_MOST = 6, DIGIT_MOST = 9, TALKED_MOST = 99, EVENING_MOST = 9999;
    private static final int TIES_MOST = MATTERS_MOST * (MATTERS_MOST - 1);
    private static final int TAPE_MOST = 100, SIGN_MOST = 127, STATIONS_MOST = 5;
    private static final int CLAUSES_MOST = 10, OPEN_MOST = 5;
    private static final int DUE_FIRST = 20, FADE_FIRST = 1;
    private static final int AHEAD_MOST = 60, SEEN_AHEAD_MOST = 20;
    private static final int AGENDA_MOST = 4, AGENDA_NONE = 9, AGENDAS_MOST = 7 * 7 * 7 * 7;
    private static final int DUES_MOST = 60, ODDS_MOST = 30;
    private static final int SEEN_MOST = 5, PLAN_MOST = 8, BOOK_MOST = 8, TRACE_MOST = 20;
    private static final int ROW_SIZE = 4;
    /** From here on the answers of on() and agenda() are numbered by a MATTER or a place. */
    private static final int EACH = 10;
    private static final int NO_TALK = -1;

    /** The KIND above each KIND. */
    private static final int[] ABOVE = {-1, 0, 0, 0, 1, 2, 3};

    private final Veranda now = new Veranda();
    private final Hand hand = new Hand();
    private final Veranda imageNow = new Veranda();
    private final Hand imageHand = new Hand();
    private final Asked asked = new Asked();
    /** THE TRACE: first how many bodies ran, then the first of them. */
    private final int[] ran = new int[1 + TRACE_MOST];
    /** A station that faults is read over, so that only one that holds needs a new object. */
    private Station spare = new Station();
    private boolean hasImage = false;

    public VerandaTalk() {
    }

    // ---- stations, matters

    public int feed(int sign) {
        if (sign < 0 || sign > SIGN_MOST) {
            return BAD;
        }
        if (hand.signs >= TAPE_MOST) {
            return FULL;
        }
        hand.tape[hand.signs] = (byte) sign;
        hand.signs++;
        return hand.signs;
    }

    public int station() {
        if (now.stations >= STATIONS_MOST) {
            return FULL;
        }
        int fault = spare.read(hand.tape, hand.signs);
        hand.signs = 0;
        if (fault >= 0) {
            return FAULTY - fault;
        }
        now.hold(spare);
        spare = new Station();
        return now.stations - 1;
    }

    public int matter(int kind, int v) {
        if (kind < 0 || kind >= KINDS) {
            return NONE;
        }
        if (v < 0 || v > DIGIT_MOST) {
            return BAD;
        }
        if (now.size >= MATTERS_MOST) {
            return FULL;
        }
        int number = now.size;
        now.join(newMatter(number, kind, v));
        return number;
    }

    public int of(int matter, int what) {
        if (!isMatter(matter)) {
            return NONE_BELOW;
        }
        switch (what) {
            case 0:
                return now.kinds[matter];
            case 1:
                return now.v[matter];
            case 2:
                return now.age[matter];
            case 3:
                return now.talked[matter];
            case 4:
                return now.settled >> matter & 1;
            case 5:
                return now.shelved >> matter & 1;
            case 6:
                return now.isReady(matter) ? 1 : 0;
            case 7:
                return now.stirOf(matter);
            case 8:
                return now.ties[matter];
            default:
                return NONE_BELOW;
        }
    }

    public int row(int matter, int k, int n) {
        if (!isMatter(matter) || k < 0 || k >= ROW_SIZE) {
            return NONE;
        }
        if (n < 0 || n > DIGIT_MOST) {
            return BAD;
        }
        if (now.kinds[matter] != TOLD_KIND) {
            return STATE;
        }
        int at = matter * ROW_SIZE + k;
        int was = now.rows[at];
        now.rows[at] = n;
        return was;
    }

    public int tie(int matter, int other, boolean is) {
        if (!isMatter(matter) || !isMatter(other)) {
            return NONE;
        }
        if (matter == other) {
            return BAD;
        }
        int was = now.ties[matter] >> other & 1;
        now.ties[matter] = withBit(now.ties[matter], other, is);
        return was;
    }

    public int shelve(int matter, boolean is) {
        if (!isMatter(matter)) {
            return NONE;
        }
        int was = now.shelved >> matter & 1;
        now.shelved = withBit(now.shelved, matter, is);
        return was;
    }

    public int reopen(int matter) {
        if (!isMatter(matter)) {
            return NONE;
        }
        int was = now.settled >> matter & 1;
        now.settled = withBit(now.settled, matter, false);
        now.talked[matter] = 0;
        now.age[matter] = 0;
        return was;
    }

    public int told(int what) {
        switch (what) {
            case 0:
                return now.evening;
            case 1:
                return now.due;
            case 2:
                return now.station.fade;
            case 3:
                return now.cost;
            case 4:
                return now.settled;
            case 5:
                return now.readyOnes();
            case 6:
                int topic = now.topic();
                return topic == NO_TALK ? NOT_ANY : topic;
            case 7:
                return now.ring();
            case 8:
                return asked.loose(now);
            default:
                return NONE;
        }
    }

    public int talk(int matter) {
        if (matter != NO_TALK && !isMatter(matter)) {
            return NONE;
        }
        if (now.evening >= EVENING_MOST) {
            return STATE;
        }
        now.goOn(matter);
        return now.settled;
    }

    public int pass(int n) {
        if (n < 0 || n > AHEAD_MOST) {
            return BAD;
        }
        if (now.evening + n > EVENING_MOST) {
            return STATE;
        }
        for (int e = 0; e < n; e++) {
            now.goOn(NO_TALK);
        }
        return now.evening;
    }

    // ---- evenings to come, nets

    public int on(int n, int what) {
        boolean isTalked = what >= EACH && what < EACH + now.size;
        if (what != 0 && what != 1 && !isTalked) {
            return NONE;
        }
        if (!isAhead(n)) {
            return BAD;
        }
        Veranda then = asked.behind(now, n);
        if (isTalked) {
            return then.talked[what - EACH];
        }
        return what == 0 ? then.settled : then.cost;
    }

    public int when(int matter) {
        if (!isMatter(matter)) {
            return NONE;
        }
        return asked.firstSettled(now, now.due, matter, AHEAD_MOST);
    }

    public int agenda(int n, int what) {
        boolean isPlace = what >= EACH && what < EACH + AGENDA_MOST;
        if (what != 0 && what != 1 && !isPlace) {
            return NONE;
        }
        if (n < 1 || n > AGENDA_MOST) {
            return BAD;
        }
        if (isPlace && what - EACH >= n) {
            return NOT_ANY;
        }
        asked.findAgenda(now, n);
        if (isPlace) {
            return asked.best[what - EACH];
        }
        return what == 0 ? asked.bestSettled : asked.bestCost - now.cost;
    }

    public int net(int matter) {
        return isMatter(matter) ? now.netOf(matter) : NONE;
    }

    // ---- seen, odds; part 0 above, 1 below the line

    public int see(int matter, int n, boolean isSettled) {
        if (matter == -1) {
            hand.seen = 0;
            return 0;
        }
        if (!isMatter(matter)) {
            return NONE;
        }
        if (n < 0 || n > SEEN_AHEAD_MOST) {
            return BAD;
        }
        if (hand.seen >= SEEN_MOST) {
            return FULL;
        }
        hand.seenMatter[hand.seen] = matter;
        hand.seenAhead[hand.seen] = n;
        hand.seenSettled = withBit(hand.seenSettled, hand.seen, isSettled);
        hand.seen++;
        return hand.seen;
    }

    public int dues(int what) {
        if (what != 0 && what != 1) {
            return NONE;
        }
        asked.findDues(now, hand);
        return what == 0 ? asked.many : asked.least;
    }

    public int firm(int matter, int what) {
        if (!isMatter(matter) || what != 0 && what != 1) {
            return NONE;
        }
        asked.findFirm(now, hand, matter);
        return what == 0 ? asked.many : asked.least;
    }

    public long odds(int matter, int n, int part) {
        if (!isMatter(matter) || !isAhead(n) || !isPart(part)) {
            return NO;
        }
        int settling = 0;
        for (int due = 1; due <= ODDS_MOST; due++) {
            if (asked.firstSettled(now, due, matter, n) != NOT_ANY) {
                settling++;
            }
        }
        return inLowestTerms(settling, ODDS_MOST, part);
    }

    public long mean(int part) {
        int open = now.openOnes();
        if (!isPart(part) || open == 0) {
            return NO;
        }
        int sum = 0;
        for (int i = 0; i < now.size; i++) {
            sum += (open >> i & 1) * now.talked[i];
        }
        return inLowestTerms(sum, Integer.bitCount(open), part);
    }

    // ---- plans, books

    public int plan(int what, int matter) {
        if (what == -1) {
            hand.plans = 0;
            return 0;
        }
        if (what < 0 || what > Hand.UNSHELVES || what != Hand.TOPIC_GOES && !isMatter(matter)) {
            return NONE;
        }
        if (hand.plans >= PLAN_MOST) {
            return FULL;
        }
        hand.planWhat[hand.plans] = what;
        hand.planMatter[hand.plans] = matter;
        hand.plans++;
        return hand.plans;
    }

    public int done(int what) {
        if (what != 0 && what != 1) {
            return NONE;
        }
        Veranda then = asked.behindPlan(now, hand);
        return what == 0 ? then.settled : then.cost;
    }

    public int book(int matter, int talked) {
        if (matter == -1) {
            hand.books = 0;
            return 0;
        }
        if (!isMatter(matter)) {
            return NONE;
        }
        if (talked < 0 || talked > TALKED_MOST) {
            return BAD;
        }
        if (hand.books >= BOOK_MOST) {
            return FULL;
        }
        hand.bookMatter[hand.books] = matter;
        hand.bookTalked[hand.books] = talked;
        hand.books++;
        return hand.books;
    }

    public int looked() {
        for (int i = 0; i < hand.books; i++) {
            int matter = hand.bookMatter[i];
            if (isMatter(matter) && now.talked[matter] != hand.bookTalked[i]) {
                return i;
            }
        }
        return NOT_ANY;
    }

    // ---- acts, the image

    public int act(int matter, int act, int x) {
        ran[0] = 0;
        Matter one = isMatter(matter) ? now.matters[matter] : null;
        if (one == null) {
            return 0;
        }
        switch (act) {
            case 0:
                return one.waits(x);
            case 1:
                return one.nods(x);
            case 2:
                return one.turns(x);
            default:
                return 0;
        }
    }

    public int trace(int i) {
        return i >= 0 && i < ran[0] && i < TRACE_MOST ? ran[1 + i] : NONE;
    }

    public int as(int matter, int k) {
        if (!isMatter(matter) || k < 0 || k >= KINDS) {
            return NONE;
        }
        return isUnder(now.kinds[matter], k) ? now.v[matter] : OTHER_KIND;
    }

    public int image() {
        imageNow.copyFrom(now);
        imageHand.copyFrom(hand);
        hasImage = true;
        return now.size;
    }

    public int undo() {
        if (!hasImage) {
            return STATE;
        }
        now.copyFrom(imageNow);
        hand.copyFrom(imageHand);
        return now.size;
    }

    public int count(int what) {
        switch (what) {
            case 0:
                return now.size;
            case 1:
                return now.stations;
            case 2:
                return hand.seen;
            case 3:
                return hand.plans;
            case 4:
                return hand.books;
            case 5:
                return hand.signs;
            case 6:
                return ran[0];
            default:
                return NONE;
        }
    }

    private boolean isMatter(int matter) {
        return matter >= 0 && matter < now.size;
    }

    private static boolean isAhead(int n) {
        return n >= 0 && n <= AHEAD_MOST;
    }

    private static boolean isPart(int part) {
        return part == 0 || part == 1;
    }

    private static int withBit(int bits, int place, boolean is) {
        return is ? bits | 1 << place : bits & ~(1 << place);
    }

    private static boolean isUnder(int kind, int k) {
        int at = kind;
        for (int up = 0; up < KINDS && at >= 0 && at < ABOVE.length; up++) {
            if (at == k) {
                return true;
            }
            at = ABOVE[at];
        }
        return false;
    }

    private static long inLowestTerms(int above, int below, int part) {
        int common = commonDivisor(above, below);
        if (common <= 0) {
            return NO;
        }
        return part == 0 ? above / common : below / common;
    }

    /** Euclid's; its remainders fall, so that a hundred steps are far more than it needs. */
    private static int commonDivisor(int a, int b) {
        int greater = a;
        int rest = b;
        for (int step = 0; step < 100 && rest != 0; step++) {
            int next = greater % rest;
            greater = rest;
            rest = next;
        }
        return greater;
    }

    private Matter newMatter(int number, int kind, int v) {
        switch (kind) {
            case 1:
                return new Marriage(number, kind, v, ran);
            case 2:
                return new Boundary(number, kind, v, ran);
            case 3:
                return new Loan(number, kind, v, ran);
            case 4:
                return new Possible(number, kind, v, ran);
            case 5:
                return new Frontier(number, kind, v, ran);
            case TOLD_KIND:
                return new Told(number, kind, v, ran);
            default:
                return new Matter(number, kind, v, ran);
        }
    }

    /** A MATTER never changes: what does stands in a Veranda, so that copies can share it. */
    private static class Matter {
        final int number;
        final int kind;
        final int v;
        private final int[] ran;

        Matter(int number, int kind, int v, int[] ran) {
            this.number = number;
            this.kind = kind;
            this.v = v;
            this.ran = ran;
        }

        int stir(Veranda all, int sum) {
            return sum;
        }

        int waits(int x) {
            begin(1);
            return x + number;
        }

        int nods(int x) {
            begin(2);
            return waits(x) - v;
        }

        int turns(int x) {
            begin(3);
            return nods(x) * 2;
        }

        final void begin(int body) {
            int at = ran[0] + 1;
            if (at > 0 && at < ran.length) {
                ran[at] = body;
            }
            ran[0] = at;
        }
    }

    private static class Marriage extends Matter {
        Marriage(int number, int kind, int v, int[] ran) {
            super(number, kind, v, ran);
        }

        int stir(Veranda all, int sum) {
            return all.age[number] >= 10 ? sum / 2 : sum;
        }

        int waits(int x) {
            begin(11);
            return super.waits(x * 3);
        }
    }

    private static class Boundary extends Matter {
        Boundary(int number, int kind, int v, int[] ran) {
            super(number, kind, v, ran);
        }

        int stir(Veranda all, int sum) {
            // not this one's own v: FIRM asks with another
            return sum - all.v[number];
        }

        int nods(int x) {
            begin(21);
            return -super.nods(x);
        }
    }

    private static class Loan extends Matter {
        Loan(int number, int kind, int v, int[] ran) {
            super(number, kind, v, ran);
        }

        int stir(Veranda all, int sum) {
            return sum + Integer.bitCount(all.settled & ~(1 << number));
        }

        int turns(int x) {
            begin(31);
            return super.turns(x) ^ 7;
        }
    }

    private static final class Possible extends Marriage {
        Possible(int number, int kind, int v, int[] ran) {
            super(number, kind, v, ran);
        }

        int stir(Veranda all, int sum) {
            return (all.evening & 1) == 1 ? 0 : super.stir(all, sum);
        }

        int turns(int x) {
            begin(41);
            return super.turns(x - 1) + waits(2);
        }
    }

    private static final class Frontier extends Boundary {
        Frontier(int number, int kind, int v, int[] ran) {
            super(number, kind, v, ran);
        }

        int stir(Veranda all, int sum) {
            int one = super.stir(all, sum);
            return all.ties[number] == 0 ? one * 2 : one;
        }

        int waits(int x) {
            begin(51);
            return super.waits(x) ^ number;
        }
    }

    private static final class Told extends Loan {
        Told(int number, int kind, int v, int[] ran) {
            super(number, kind, v, ran);
        }

        int stir(Veranda all, int sum) {
            return super.stir(all, sum) + all.rows[number * ROW_SIZE + (all.evening & 3)];
        }

        int nods(int x) {
            begin(61);
            return super.nods(x) + v;
        }
    }

    /** The clauses of a STATION; a new one has none. */
    private static final class Station {
        private static final int NOT = -1, AND = -2, OR = -3;
        private static final String LOOKS = "pkvane", ORDERS = "<=>";

        int due = DUE_FIRST;
        int fade = FADE_FIRST;
        /** How many clauses warm or cool. */
        int stirring = 0;
        /** What each of these adds to a SUM when it holds. */
        final int[] amounts = new int[CLAUSES_MOST];
        /** Where in the code each one's E ends. */
        private final int[] ends = new int[CLAUSES_MOST];
        /** The E of all, operands ahead of their operators. */
        private final int[] code = new int[TAPE_MOST];
        private int coded = 0;
        private byte[] tape = new byte[0];
        private int size = 0;
        private int at = 0;

        /** The FAULT, or -1. */
        int read(byte[] signs, int many) {
            tape = signs;
            size = Math.min(many, signs.length);
            at = 0;
            due = DUE_FIRST;
            fade = FADE_FIRST;
            stirring = 0;
            coded = 0;
            for (int c = 1; c <= CLAUSES_MOST; c++) {
                if (!readClause()) {
                    return at;
                }
                if (at >= size) {
                    return -1;
                }
                if (c == CLAUSES_MOST || !take(';')) {
                    return at;
                }
            }
            return at;
        }

        private boolean readClause() {
            int first = peek();
            if (!takeWord(wordFrom(first)) || !take(' ')) {
                return false;
            }
            int n = readNumber();
            if (n < 0) {
                return false;
            }
            if (first == 'd') {
                due = n;
                return true;
            }
            if (first == 'f') {
                fade = n;
                return true;
            }
            if (!take(' ') || !readEither(0) || stirring >= CLAUSES_MOST) {
                return false;
            }
            amounts[stirring] = first == 'w' ? n : -n;
            ends[stirring] = coded;
            stirring++;
            return true;
        }

        private static String wordFrom(int first) {
            switch (first) {
                case 'd':
                    return "due";
                case 'f':
                    return "fade";
                case 'w':
                    return "warm";
                case 'c':
                    return "cool";
                default:
                    return "";
            }
        }

        /** E, with as many of ! and ( open around it. */
        private boolean readEither(int open) {
            if (!readBoth(open)) {
                return false;
            }
            for (int more = 0; more < TAPE_MOST && take('|'); more++) {
                if (!readBoth(open)) {
                    return false;
                }
                put(OR);
            }
            return true;
        }

        /** T. */
        private boolean readBoth(int open) {
            if (!readPart(open)) {
                return false;
            }
            for (int more = 0; more < TAPE_MOST && take('&'); more++) {
                if (!readPart(open)) {
                    return false;
                }
                put(AND);
            }
            return true;
        }

        /** F. */
        private boolean readPart(int open) {
            int inside = open;
            while (inside < OPEN_MOST && take('!')) {
                inside++;
            }
            if (inside < OPEN_MOST && take('(')) {
                if (!readEither(inside + 1) || !take(')')) {
                    return false;
                }
            } else {
                int look = takeOneOf(LOOKS);
                int order = look < 0 ? -1 : takeOneOf(ORDERS);
                int n = order < 0 ? -1 : readNumber();
                if (n < 0) {
                    return false;
                }
                put(look << 16 | order << 8 | n);
            }
            for (int i = open; i < inside; i++) {
                put(NOT);
            }
            return true;
        }

        /** The number, or -1. */
        private int readNumber() {
            int first = digitOf(peek());
            if (first < 0) {
                return -1;
            }
            at++;
            int second = first > 0 ? digitOf(peek()) : -1;
            if (second < 0) {
                return first;
            }
            at++;
            return first * 10 + second;
        }

        private static int digitOf(int sign) {
            return sign >= '0' && sign <= '9' ? sign - '0' : -1;
        }

        /** Which one of them comes, or -1. */
        private int takeOneOf(String signs) {
            int sign = peek();
            int which = sign < 0 ? -1 : signs.indexOf((char) sign);
            if (which >= 0) {
                at++;
            }
            return which;
        }

        /** Stops at the first sign that is another; an empty word is none. */
        private boolean takeWord(String word) {
            for (int i = 0; i < word.length(); i++) {
                if (!take(word.charAt(i))) {
                    return false;
                }
            }
            return !word.isEmpty();
        }

        private boolean take(char sign) {
            if (peek() != sign) {
                return false;
            }
            at++;
            return true;
        }

        private int peek() {
            return at >= 0 && at < size && at < tape.length ? tape[at] : -1;
        }

        private void put(int word) {
            if (coded < code.length) {
                code[coded] = word;
                coded++;
            }
        }

        private static boolean passes(int look, int order, int n) {
            return order == 0 ? look < n : order == 1 ? look == n : look > n;
        }

        /** Whether a clause's E holds; what is open is a stack of bits, the newest one the lowest. */
        boolean holds(int clause, int[] looks) {
            int bits = 0;
            for (int i = clause > 0 ? ends[clause - 1] : 0; i < ends[clause]; i++) {
                int word = code[i];
                if (word == NOT) {
                    bits ^= 1;
                } else if (word == AND) {
                    bits = bits >> 1 & (bits | ~1);
                } else if (word == OR) {
                    bits = bits >> 1 | bits & 1;
                } else {
                    bits = bits << 1 | (passes(looks[word >> 16], word >> 8 & 255, word & 255) ? 1 : 0);
                }
            }
            return (bits & 1) == 1;
        }
    }

    /**
     * How all is. Neither AGE nor COST is held to its end: EVENING ends at 9999, and AGE is one more
     * by each, COST six at most; and what is asked goes beyond.
     */
    private static final class Veranda {
        final Matter[] matters = new Matter[MATTERS_MOST];
        final int[] kinds = new int[MATTERS_MOST];
        final int[] v = new int[MATTERS_MOST];
        final int[] age = new int[MATTERS_MOST];
        final int[] talked = new int[MATTERS_MOST];
        /** On which each one HANGS, as bits. */
        final int[] ties = new int[MATTERS_MOST];
        /** ROW behind ROW. */
        final int[] rows = new int[MATTERS_MOST * ROW_SIZE];
        /** What p, k, v, a, n, e are of the one whose SUM is asked. */
        private final int[] looks = new int[6];
        int size = 0;
        int settled = 0;
        int shelved = 0;
        int cost = 0;
        int evening = 0;
        /** Stands beside the station's, as it is asked what were with another. */
        int due = DUE_FIRST;
        Station station = new Station();
        int stations = 0;

        void copyFrom(Veranda other) {
            for (int i = 0; i < MATTERS_MOST; i++) {
                matters[i] = other.matters[i];
                kinds[i] = other.kinds[i];
                v[i] = other.v[i];
                age[i] = other.age[i];
                talked[i] = other.talked[i];
                ties[i] = other.ties[i];
            }
            System.arraycopy(other.rows, 0, rows, 0, rows.length);
            size = other.size;
            settled = other.settled;
            shelved = other.shelved;
            cost = other.cost;
            evening = other.evening;
            due = other.due;
            station = other.station;
            stations = other.stations;
        }

        void join(Matter one) {
            int at = size;
            if (at >= MATTERS_MOST) {
                return;
            }
            matters[at] = one;
            kinds[at] = one.kind;
            v[at] = one.v;
            size++;
        }

        void hold(Station read) {
            station = read;
            due = read.due;
            stations++;
        }

        boolean isSettled(int i) {
            return (settled >> i & 1) == 1;
        }

        int unsettledOnes() {
            return (1 << size) - 1 & ~settled;
        }

        int openOnes() {
            return unsettledOnes() & ~shelved;
        }

        boolean isReady(int i) {
            return (openOnes() >> i & 1) == 1 && (ties[i] & ~settled) == 0;
        }

        int readyOnes() {
            int ready = 0;
            for (int i = 0; i < size; i++) {
                if (isReady(i)) {
                    ready |= 1 << i;
                }
            }
            return ready;
        }

        int stirOf(int i) {
            Matter one = matters[i];
            return one == null ? 0 : one.stir(this, sumOf(i));
        }

        private int sumOf(int i) {
            looks[0] = i;
            looks[1] = kinds[i];
            looks[2] = v[i];
            looks[3] = age[i] % 10;
            looks[4] = Integer.bitCount(ties[i] & ~settled);
            looks[5] = evening % 10;
            int sum = 5;
            for (int c = 0; c < station.stirring; c++) {
                if (station.holds(c, looks)) {
                    sum += station.amounts[c];
                }
            }
            return sum;
        }

        int topic() {
            int first = NO_TALK;
            int most = 0;
            for (int i = 0; i < size; i++) {
                int stir = isReady(i) ? stirOf(i) : 0;
                if (stir > most) {
                    first = i;
                    most = stir;
                }
            }
            return first;
        }

        /** An EVENING goes with TALK of one, or of NO_TALK. */
        void goOn(int topic) {
            int open = openOnes();
            boolean isHeard = topic >= 0 && topic < size && isReady(topic);
            // ahead of all that changes below, as STIR looks at it
            int more = isHeard ? Math.max(0, stirOf(topic)) : 0;
            for (int i = 0; i < size; i++) {
                if (isHeard && i == topic) {
                    talked[i] = Math.min(TALKED_MOST, talked[i] + more);
                } else if ((open >> i & 1) == 1) {
                    talked[i] = Math.max(0, talked[i] - station.fade);
                }
            }
            if (isHeard && talked[topic] >= due) {
                settled |= 1 << topic;
            }
            for (int i = 0; i < size; i++) {
                if (!isSettled(i)) {
                    age[i]++;
                }
            }
            cost += Integer.bitCount(openOnes());
            evening++;
        }

        int netOf(int i) {
            int unsettled = unsettledOnes();
            int net = ties[i] & unsettled;
            // each round goes one tie further, and no way is longer than there are matters
            for (int round = 1; round < size; round++) {
                for (int j = 0; j < size; j++) {
                    if ((net >> j & 1) == 1) {
                        net |= ties[j] & unsettled;
                    }
                }
            }
            return net;
        }

        int ring() {
            int circling = 0;
            for (int i = 0; i < size; i++) {
                circling |= netOf(i) & 1 << i;
            }
            int ring = 0;
            for (int i = 0; i < size; i++) {
                if ((netOf(i) & circling) != 0) {
                    ring |= 1 << i;
                }
            }
            return ring;
        }
    }

    /** What is told by hand. */
    private static final class Hand {
        static final int TOPIC_GOES = 0, ONE_GOES = 1, SHELVES = 2, UNSHELVES = 3;

        final byte[] tape = new byte[TAPE_MOST];
        int signs = 0;
        final int[] seenMatter = new int[SEEN_MOST];
        final int[] seenAhead = new int[SEEN_MOST];
        /** Whether each one of SEEN is SETTLED then, as bits. */
        int seenSettled = 0;
        int seen = 0;
        final int[] planWhat = new int[PLAN_MOST];
        final int[] planMatter = new int[PLAN_MOST];
        int plans = 0;
        final int[] bookMatter = new int[BOOK_MOST];
        final int[] bookTalked = new int[BOOK_MOST];
        int books = 0;

        void copyFrom(Hand other) {
            System.arraycopy(other.tape, 0, tape, 0, TAPE_MOST);
            signs = other.signs;
            System.arraycopy(other.seenMatter, 0, seenMatter, 0, SEEN_MOST);
            System.arraycopy(other.seenAhead, 0, seenAhead, 0, SEEN_MOST);
            seenSettled = other.seenSettled;
            seen = other.seen;
            System.arraycopy(other.planWhat, 0, planWhat, 0, PLAN_MOST);
            System.arraycopy(other.planMatter, 0, planMatter, 0, PLAN_MOST);
            plans = other.plans;
            System.arraycopy(other.bookMatter, 0, bookMatter, 0, BOOK_MOST);
            System.arraycopy(other.bookTalked, 0, bookTalked, 0, BOOK_MOST);
            books = other.books;
        }

        /** How many EVENINGS ahead the last of SEEN is. */
        int lastSeen() {
            int last = 0;
            for (int i = 0; i < seen; i++) {
                last = Math.max(last, seenAhead[i]);
            }
            return last;
        }

        /** Whether what is SEEN so many EVENINGS ahead is so, if all is like that by then. */
        boolean isSo(Veranda then, int ahead) {
            for (int i = 0; i < seen; i++) {
                boolean isThen = (seenSettled >> i & 1) == 1;
                if (seenAhead[i] == ahead && then.isSettled(seenMatter[i]) != isThen) {
                    return false;
                }
            }
            return true;
        }
    }

    /** What goes on from how all is; it works on copies, which are made once. */
    private static final class Asked {
        private final Veranda run = new Veranda();
        /** How all is behind each EVENING of the agenda that is tried. */
        private final Veranda[] steps = new Veranda[1 + AGENDA_MOST];
        private final int[] tried = new int[AGENDA_MOST];
        final int[] best = new int[AGENDA_MOST];
        int bestSettled = 0;
        int bestCost = 0;
        /** How many numbers there are by which all of SEEN is so, and the least. */
        int many = 0;
        int least = NOT_ANY;
        private final int[] dropped = new int[1 << MATTERS_MOST];

        Asked() {
            for (int i = 0; i < steps.length; i++) {
                steps[i] = new Veranda();
            }
        }

        Veranda behind(Veranda now, int n) {
            run.copyFrom(now);
            for (int e = 0; e < n; e++) {
                run.goOn(run.topic());
            }
            return run;
        }

        /** The fewest EVENINGS behind which one is settled, if no more than most. */
        int firstSettled(Veranda now, int due, int matter, int most) {
            run.copyFrom(now);
            run.due = due;
            for (int e = 0; e <= most; e++) {
                if (run.isSettled(matter)) {
                    return e;
                }
                run.goOn(run.topic());
            }
            return NOT_ANY;
        }

        /** Counts the rows up like numbers, so that of several alike the first one stays the best. */
        void findAgenda(Veranda now, int n) {
            int places = Math.min(n, AGENDA_MOST);
            steps[0].copyFrom(now);
            bestSettled = -1;
            bestCost = 0;
            for (int k = 0; k < places; k++) {
                tried[k] = firstTalk(now.size);
            }
            int from = 0;
            for (int row = 0; row < AGENDAS_MOST && from >= 0; row++) {
                goRow(from, places);
                judge(steps[places], places);
                from = nextRow(places, now.size);
            }
        }

        private static int firstTalk(int size) {
            return size > 0 ? 0 : AGENDA_NONE;
        }

        /** Ahead of that place all goes as in the row before. */
        private void goRow(int from, int places) {
            for (int k = from; k < places; k++) {
                steps[k + 1].copyFrom(steps[k]);
                steps[k + 1].goOn(tried[k] == AGENDA_NONE ? NO_TALK : tried[k]);
            }
        }

        /** The first place of the next row that differs from this one, or -1. */
        private int nextRow(int places, int size) {
            for (int k = places - 1; k >= 0; k--) {
                if (tried[k] != AGENDA_NONE) {
                    tried[k] = tried[k] + 1 < size ? tried[k] + 1 : AGENDA_NONE;
                    return k;
                }
                tried[k] = firstTalk(size);
            }
            return -1;
        }

        private void judge(Veranda then, int n) {
            int settled = Integer.bitCount(then.settled);
            if (settled > bestSettled || settled == bestSettled && then.cost < bestCost) {
                bestSettled = settled;
                bestCost = then.cost;
                System.arraycopy(tried, 0, best, 0, n);
            }
        }

        /**
         * No RING is left where the unsettled stand in an order in which each hangs on earlier ones
         * alone: for each set of them standing first, the fewest ties to later ones, by which of
         * the set is its last.
         */
        int loose(Veranda now) {
            int unsettled = now.unsettledOnes();
            dropped[0] = 0;
            for (int first = 1; first <= unsettled; first++) {
                dropped[first] = TIES_MOST;
                for (int i = 0; i < now.size; i++) {
                    if ((first >> i & 1) == 1) {
                        int later = Integer.bitCount(now.ties[i] & unsettled & ~first);
                        dropped[first] = Math.min(dropped[first], dropped[first & ~(1 << i)] + later);
                    }
                }
            }
            return dropped[unsettled];
        }

        void findDues(Veranda now, Hand hand) {
            many = 0;
            least = NOT_ANY;
            for (int due = DUES_MOST; due >= 1; due--) {
                run.copyFrom(now);
                run.due = due;
                if (isAllSeen(hand)) {
                    many++;
                    least = due;
                }
            }
        }

        void findFirm(Veranda now, Hand hand, int matter) {
            many = 0;
            least = NOT_ANY;
            for (int v = DIGIT_MOST; v >= 0; v--) {
                run.copyFrom(now);
                run.v[matter] = v;
                if (isAllSeen(hand)) {
                    many++;
                    least = v;
                }
            }
        }

        /** Whether all of SEEN is so, as the run goes on from what it is. */
        private boolean isAllSeen(Hand hand) {
            int last = Math.min(hand.lastSeen(), SEEN_AHEAD_MOST);
            for (int e = 0; e <= last; e++) {
                if (!hand.isSo(run, e)) {
                    return false;
                }
                if (e < last) {
                    run.goOn(run.topic());
                }
            }
            return true;
        }

        Veranda behindPlan(Veranda now, Hand hand) {
            run.copyFrom(now);
            for (int i = 0; i < hand.plans; i++) {
                int matter = hand.planMatter[i];
                switch (hand.planWhat[i]) {
                    case Hand.TOPIC_GOES:
                        run.goOn(run.topic());
                        break;
                    case Hand.ONE_GOES:
                        run.goOn(matter);
                        break;
                    case Hand.SHELVES:
                        run.shelved |= 1 << matter;
                        break;
                    default:
                        run.shelved &= ~(1 << matter);
                        break;
                }
            }
            return run;
        }
    }
}
