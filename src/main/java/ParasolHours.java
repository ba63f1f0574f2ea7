/** A dominion of parasols, each with an hour of its own; ../shared/DOC.md tells what each call answers. */
public final class ParasolHours {
    public static final int BAD = -1, NO = -2, FULL = -3, NONE = -4;

    private static final String FIRST_TEXT =
        "q6;u0,10,2;u1,18,0;u2,7,4;u3,14,1;u0,11,8;p0;p0;p2;p0;w1,13;w2,19;w3,10;w5,15;w0,12;";
    private static final int MOST_LETTERS = 200;
    private static final int MOST_PARASOLS = 6;
    private static final int MOST_PERSONS = 5;
    private static final int MOST_WORKS = 6;
    private static final int MOST_SEEN = 6;
    private static final int MOST_UNDONE = 8;
    private static final int MOST_KEPT = 2;

    private static final int BLACK = 1;
    private static final int LACE = 2;
    private static final int PAPER = 3;
    private static final int DIAL = 24;
    private static final int NOON = 12;
    private static final int STAND = 0;
    private static final int SHADY = 12;
    private static final int THREADBARE = 20;
    private static final int FORESIGHT = 48;
    private static final int RIGHT = 0;

    private final Text text;
    private final Reader reader;
    private final Plan plan;
    private final Moment now;
    // What would be is tried out here, so that no call has to make an object.
    private final Moment trial;
    private final Shelf past;
    private final Shelf kept;
    private final Sightings seen;
    private final Deal dealt;

    public ParasolHours() {
        text = new Text();
        reader = new Reader();
        plan = new Plan();
        now = new Moment(plan);
        trial = new Moment(plan);
        past = new Shelf(MOST_UNDONE, plan);
        kept = new Shelf(MOST_KEPT, plan);
        seen = new Sightings();
        dealt = new Deal();
        for (int i = 0; i < FIRST_TEXT.length(); i++) {
            text.append(FIRST_TEXT.charAt(i));
        }
        reader.placeOfFault(text);
        settle();
        text.clear();
    }

    // ---- dominions

    public int write(int letter) {
        if (letter < 32 || letter > 126) {
            return BAD;
        }
        if (text.isFull()) {
            return FULL;
        }
        text.append((char) letter);
        return text.length;
    }

    public int wipe() {
        int length = text.length;
        text.clear();
        return length;
    }

    public int fault() {
        return reader.placeOfFault(text);
    }

    public int lay() {
        if (reader.placeOfFault(text) != NONE || reader.plan.parasols < 1 || reader.plan.persons < 1) {
            return NO;
        }
        settle();
        return plan.persons;
    }

    public int parasol(int u, int what) {
        if (!plan.hasParasol(u)) {
            return BAD;
        }
        switch (what) {
            case 0: return plan.kindOf(u);
            case 1: return now.hourOf(u);
            case 2: return now.wornOf(u);
            case 3: return now.bearersOf(u);
            case 4: return now.squareOfParasol(u);
            default: return BAD;
        }
    }

    public int person(int p, int what) {
        if (!plan.hasPerson(p)) {
            return BAD;
        }
        switch (what) {
            case 0: return now.squareOf(p);
            case 1: return now.parasolOf(p);
            case 2: return now.timeOf(p, now.parasolOf(p));
            case 3: return now.isStill(p) ? 1 : 0;
            case 4: return now.hasShade(p) ? 1 : 0;
            default: return BAD;
        }
    }

    public int work(int w, int what) {
        if (!plan.hasWork(w)) {
            return BAD;
        }
        switch (what) {
            case 0: return plan.workSquareOf(w);
            case 1: return plan.workHourOf(w);
            case 2: return now.isDone(w) ? 1 : 0;
            default: return BAD;
        }
    }

    // ---- acts

    public int take(int p, int u) {
        if (!plan.hasPerson(p) || !plan.hasParasol(u)) {
            return BAD;
        }
        if (!now.canTake(p, u)) {
            return NO;
        }
        past.push(now);
        now.doTake(p, u);
        return now.hourOf(u);
    }

    public int share(int p, int q) {
        if (!plan.hasPerson(p) || !plan.hasPerson(q) || p == q) {
            return BAD;
        }
        if (!now.canShare(p, q)) {
            return NO;
        }
        past.push(now);
        now.doShare(p, q);
        return now.parasolOf(p);
    }

    public int give(int p) {
        if (!plan.hasPerson(p)) {
            return BAD;
        }
        if (!now.canGive(p)) {
            return NO;
        }
        int u = now.parasolOf(p);
        past.push(now);
        now.doGive(p);
        return u;
    }

    public int walk(int p, int way) {
        if (!plan.hasPerson(p) || way < 0 || way > 1) {
            return BAD;
        }
        if (!now.canWalk(p, way)) {
            return NO;
        }
        past.push(now);
        now.doWalk(p, way);
        return now.squareOf(p);
    }

    public int mend(int u) {
        if (!plan.hasParasol(u)) {
            return BAD;
        }
        if (!now.isInStand(u)) {
            return NO;
        }
        int worn = now.wornOf(u);
        past.push(now);
        now.doMend(u);
        return worn;
    }

    public int pass(int n) {
        if (n < 1 || n > 24) {
            return BAD;
        }
        past.push(now);
        now.goOn(n);
        return now.gone;
    }

    public int undo() {
        if (past.isEmpty()) {
            return NO;
        }
        past.popInto(now);
        return past.size;
    }

    // ---- hours

    public int until(int u, int h) {
        if (!plan.hasParasol(u) || !isHour(h)) {
            return BAD;
        }
        return now.hoursUntil(u, h);
    }

    public int agree(int u, int v) {
        if (!plan.hasParasol(u) || !plan.hasParasol(v) || u == v) {
            return BAD;
        }
        for (int n = 0; n <= FORESIGHT; n++) {
            if (now.hourBehind(u, n) == now.hourBehind(v, n)) {
                return n;
            }
        }
        return NONE;
    }

    public int deal(int k) {
        if (k != -1 && !plan.hasPerson(k)) {
            return BAD;
        }
        dealt.findBest(now);
        return k == -1 ? dealt.most : dealt.bestOf(k);
    }

    public int make(int h) {
        if (!isHour(h)) {
            return BAD;
        }
        int best = NONE;
        for (int set = 1; set < 1 << plan.parasols; set++) {
            boolean fewer = best == NONE || Integer.bitCount(set) < Integer.bitCount(best);
            if (fewer && now.sumOfHours(set) % DIAL == h) {
                best = set;
            }
        }
        return best;
    }

    public int still(int n) {
        if (n < 0 || n > 48) {
            return BAD;
        }
        trial.copyFrom(now);
        trial.goOn(n);
        return trial.stillBits;
    }

    public int soonest(int w, int what) {
        if (!plan.hasWork(w) || what < 0 || what > 1) {
            return BAD;
        }
        if (now.isDone(w)) {
            return NO;
        }
        int who = NONE;
        int least = NONE;
        for (int p = 0; p < plan.persons; p++) {
            int hours = now.hoursUntilWork(p, plan.workHourOf(w));
            if (hours != NONE && (who == NONE || hours < least)) {
                who = p;
                least = hours;
            }
        }
        return what == 0 ? who : least;
    }

    // ---- what was seen

    public int see(int h, int n) {
        if (!isHour(h) || n < 0 || n > 30) {
            return BAD;
        }
        if (seen.isFull()) {
            return FULL;
        }
        seen.add(h, n);
        return seen.size;
    }

    public int forget() {
        int size = seen.size;
        seen.clear();
        return size;
    }

    public int which() {
        int bits = 0;
        for (int u = 0; u < plan.parasols; u++) {
            if (seen.fit(now, u, now.hourOf(u))) {
                bits |= 1 << u;
            }
        }
        return bits;
    }

    public int set(int u) {
        if (!plan.hasParasol(u)) {
            return BAD;
        }
        int bits = 0;
        for (int h = 0; h < DIAL; h++) {
            if (seen.fit(now, u, h)) {
                bits |= 1 << h;
            }
        }
        return bits;
    }

    // ---- flecks, days

    public int flecks(int u, int h, int n, int x, int part) {
        if (!plan.hasParasol(u) || !isHour(h) || n < 0 || n > 8 || x < 0 || x > 10 || part < 0 || part > 1) {
            return BAD;
        }
        int above = now.fleckedWays(u, h, n, x);
        int below = power(10, n);
        // 10 to the n holds each of 2 and 5 just n times, so n rounds reach the lowest terms.
        for (int i = 0; i < n; i++) {
            if (above % 2 == 0 && below % 2 == 0) {
                above /= 2;
                below /= 2;
            }
            if (above % 5 == 0 && below % 5 == 0) {
                above /= 5;
                below /= 5;
            }
        }
        return part == 0 ? above : below;
    }

    public int day(int z, int n, int what) {
        if (z < 0 || z > 9999 || n < 1 || n > 60 || what < 0 || what > 1) {
            return BAD;
        }
        trial.copyFrom(now);
        for (int k = 0; k < n; k++) {
            trial.actByDraw(drawOf(z, k));
            trial.goOn(1);
        }
        return what == 0 ? Integer.bitCount(trial.doneBits) : trial.met - now.met;
    }

    public int keep() {
        if (kept.isFull()) {
            return FULL;
        }
        kept.push(now);
        return kept.size;
    }

    public int back() {
        if (kept.isEmpty()) {
            return NO;
        }
        kept.popInto(now);
        past.clear();
        return kept.size;
    }

    public int count(int what) {
        switch (what) {
            case 0: return plan.squares;
            case 1: return plan.parasols;
            case 2: return plan.persons;
            case 3: return plan.works;
            case 4: return now.gone;
            case 5: return Integer.bitCount(now.doneBits);
            case 6: return now.met;
            case 7: return Integer.bitCount(now.stillBits);
            case 8: return now.parasolsInStand();
            case 9: return seen.size;
            case 10: return past.size;
            case 11: return kept.size;
            case 12: return text.length;
            default: return BAD;
        }
    }

    // ---- behind the face

    /** Makes what the reader read last the dominion. */
    private void settle() {
        plan.copyFrom(reader.plan);
        now.copyFrom(reader.start);
        past.clear();
        kept.clear();
        seen.clear();
    }

    private static boolean isHour(int h) {
        return h >= 0 && h < DIAL;
    }

    // All rows are read and changed by these two, so that no index can ever be out of one.
    private static int at(int[] row, int i) {
        return i >= 0 && i < row.length ? row[i] : 0;
    }

    private static void put(int[] row, int i, int value) {
        if (i >= 0 && i < row.length) {
            row[i] = value;
        }
    }

    private static void copyRow(int[] from, int[] to) {
        for (int i = 0; i < from.length && i < to.length; i++) {
            to[i] = from[i];
        }
    }

    private static boolean hasBit(int bits, int i) {
        return (bits >> i & 1) == 1;
    }

    private static int modulo(int number, int many) {
        return many > 0 ? number % many : 0;
    }

    private static int evenHours(int from, int n) {
        return (n + 1 - from % 2) / 2;
    }

    /** In how many of the n HOURS from the given one on a PARASOL's HOUR changes. */
    private static int turnsOf(int kind, int from, int n) {
        return kind == LACE ? evenHours(from, n) : n;
    }

    private static int turnOf(int kind) {
        return kind == PAPER ? 2 : 1;
    }

    private static int wearOf(int kind, int from, int n) {
        return kind == BLACK ? evenHours(from, n) : n;
    }

    private static int drawOf(int z, int k) {
        long x = 7919L * z + 6151L * k + 1;
        return (int) (x * x % 65521);
    }

    private static int power(int base, int exponent) {
        int product = 1;
        for (int i = 0; i < exponent; i++) {
            product *= base;
        }
        return product;
    }

    private static int choicesOf(int some, int many) {
        int choices = 1;
        for (int i = 0; i < some; i++) {
            choices = choices * (many - i) / (i + 1);
        }
        return choices;
    }

    private static final class Text {
        final char[] letters = new char[MOST_LETTERS];
        int length;

        boolean isFull() {
            return length >= MOST_LETTERS;
        }

        void append(char letter) {
            if (length >= 0 && length < letters.length) {
                letters[length] = letter;
                length++;
            }
        }

        void clear() {
            length = 0;
        }

        /** The letter at a place; behind the last one a sign that no ITEM has. */
        char letterAt(int place) {
            return place >= 0 && place < length && place < letters.length ? letters[place] : ' ';
        }
    }

    /** What a TEXT lays once for all: nothing that is done changes it. */
    private static final class Plan {
        int squares;
        int parasols;
        int persons;
        int works;
        final int[] kind = new int[MOST_PARASOLS];
        final int[] workSquare = new int[MOST_WORKS];
        final int[] workHour = new int[MOST_WORKS];

        void copyFrom(Plan other) {
            squares = other.squares;
            parasols = other.parasols;
            persons = other.persons;
            works = other.works;
            copyRow(other.kind, kind);
            copyRow(other.workSquare, workSquare);
            copyRow(other.workHour, workHour);
        }

        boolean hasSquare(int x) {
            return x >= 0 && x < squares;
        }

        boolean hasParasol(int u) {
            return u >= 0 && u < parasols;
        }

        boolean hasPerson(int p) {
            return p >= 0 && p < persons;
        }

        boolean hasWork(int w) {
            return w >= 0 && w < works;
        }

        int kindOf(int u) {
            return at(kind, u);
        }

        int workSquareOf(int w) {
            return at(workSquare, w);
        }

        int workHourOf(int w) {
            return at(workHour, w);
        }
    }

    /** Reads a TEXT into a plan and a first moment of its own, so that a faulty one spoils nothing. */
    private static final class Reader {
        final Plan plan = new Plan();
        final Moment start = new Moment(plan);
        final int[] numbers = new int[3];

        int placeOfFault(Text text) {
            clear();
            int place = 0;
            for (int items = 0; items < MOST_LETTERS && place < text.length; items++) {
                int next = behindItem(text, place);
                if (next == NONE) {
                    return place;
                }
                place = next;
            }
            return NONE;
        }

        private void clear() {
            plan.squares = 6;
            plan.parasols = 0;
            plan.persons = 0;
            plan.works = 0;
            start.clear();
        }

        private int behindItem(Text text, int from) {
            char letter = text.letterAt(from);
            int wanted = numbersOf(letter);
            int place = from + 1;
            for (int i = 0; i < wanted; i++) {
                place = behindNumber(text, place, i, i == wanted - 1 ? ';' : ',');
                if (place == NONE) {
                    return NONE;
                }
            }
            return accepts(letter) ? place : NONE;
        }

        private static int numbersOf(char letter) {
            if (letter == 'u') {
                return 3;
            }
            if (letter == 'w') {
                return 2;
            }
            return letter == 'q' || letter == 'p' ? 1 : 0;
        }

        private int behindNumber(Text text, int from, int i, char end) {
            int number = 0;
            int place = from;
            while (place < from + 2 && isFigure(text.letterAt(place))) {
                number = number * 10 + (text.letterAt(place) - '0');
                place++;
            }
            if (place == from || text.letterAt(place) != end) {
                return NONE;
            }
            put(numbers, i, number);
            return place + 1;
        }

        private static boolean isFigure(char letter) {
            return letter >= '0' && letter <= '9';
        }

        private boolean accepts(char letter) {
            return letter == 'q' && acceptsSquares() || letter == 'u' && acceptsParasol()
                || letter == 'p' && acceptsPerson() || letter == 'w' && acceptsWork();
        }

        private boolean acceptsSquares() {
            int many = at(numbers, 0);
            if (many < 1 || many > 9 || plan.parasols + plan.persons + plan.works > 0) {
                return false;
            }
            plan.squares = many;
            return true;
        }

        private boolean acceptsParasol() {
            int kind = at(numbers, 0);
            int hour = at(numbers, 1);
            int worn = at(numbers, 2);
            if (kind > PAPER || !isHour(hour) || worn > SHADY || plan.parasols >= MOST_PARASOLS) {
                return false;
            }
            put(plan.kind, plan.parasols, kind);
            put(start.hour, plan.parasols, hour);
            put(start.worn, plan.parasols, worn);
            plan.parasols++;
            return true;
        }

        private boolean acceptsPerson() {
            int square = at(numbers, 0);
            if (!plan.hasSquare(square) || plan.persons >= MOST_PERSONS) {
                return false;
            }
            put(start.square, plan.persons, square);
            plan.persons++;
            return true;
        }

        private boolean acceptsWork() {
            int square = at(numbers, 0);
            int hour = at(numbers, 1);
            if (!plan.hasSquare(square) || !isHour(hour) || plan.works >= MOST_WORKS) {
                return false;
            }
            put(plan.workSquare, plan.works, square);
            put(plan.workHour, plan.works, hour);
            plan.works++;
            return true;
        }
    }

    /** How a dominion stands: all that acts and HOURS change. */
    private static final class Moment {
        final Plan plan;
        int gone;
        int met;
        int stillBits;
        int doneBits;
        final int[] hour = new int[MOST_PARASOLS];
        final int[] worn = new int[MOST_PARASOLS];
        final int[] square = new int[MOST_PERSONS];
        final int[] under = new int[MOST_PERSONS];

        Moment(Plan plan) {
            this.plan = plan;
        }

        void clear() {
            gone = 0;
            met = 0;
            stillBits = 0;
            doneBits = 0;
            for (int p = 0; p < under.length; p++) {
                under[p] = NONE;
            }
        }

        void copyFrom(Moment other) {
            gone = other.gone;
            met = other.met;
            stillBits = other.stillBits;
            doneBits = other.doneBits;
            copyRow(other.hour, hour);
            copyRow(other.worn, worn);
            copyRow(other.square, square);
            copyRow(other.under, under);
        }

        int hourOf(int u) {
            return at(hour, u);
        }

        int wornOf(int u) {
            return at(worn, u);
        }

        int squareOf(int p) {
            return at(square, p);
        }

        int parasolOf(int p) {
            return at(under, p);
        }

        boolean isStill(int p) {
            return hasBit(stillBits, p);
        }

        boolean isDone(int w) {
            return hasBit(doneBits, w);
        }

        int bearersOf(int u) {
            int bits = 0;
            for (int p = 0; p < plan.persons; p++) {
                if (parasolOf(p) == u) {
                    bits |= 1 << p;
                }
            }
            return bits;
        }

        // A last PERSON gives up on SQUARE 0 alone, so where nobody is under it, it is in the STAND.
        boolean isInStand(int u) {
            return bearersOf(u) == 0;
        }

        int parasolsInStand() {
            int many = 0;
            for (int u = 0; u < plan.parasols; u++) {
                if (isInStand(u)) {
                    many++;
                }
            }
            return many;
        }

        // All who are under one PARASOL are on one SQUARE, so any of them tells it.
        int squareOfParasol(int u) {
            for (int p = 0; p < plan.persons; p++) {
                if (parasolOf(p) == u) {
                    return squareOf(p);
                }
            }
            return STAND;
        }

        boolean hasShade(int p) {
            int u = parasolOf(p);
            return squareOf(p) == STAND || u != NONE && wornOf(u) <= SHADY;
        }

        /** The TIME of a PERSON where it is, were it under this PARASOL (or NONE). */
        int timeOf(int p, int u) {
            if (u == NONE) {
                return squareOf(p) == STAND ? NONE : NOON;
            }
            return wornOf(u) <= SHADY ? hourOf(u) : NOON;
        }

        /** The WORKS (bits) that a PERSON would do now, were it under this PARASOL (or NONE). */
        int worksOf(int p, int u) {
            int time = timeOf(p, u);
            int bits = 0;
            for (int w = 0; w < plan.works; w++) {
                boolean here = plan.workSquareOf(w) == squareOf(p);
                if (here && plan.workHourOf(w) == time && !isDone(w)) {
                    bits |= 1 << w;
                }
            }
            return bits;
        }

        boolean canTake(int p, int u) {
            return !isStill(p) && squareOf(p) == STAND && parasolOf(p) == NONE && isInStand(u);
        }

        void doTake(int p, int u) {
            put(under, p, u);
        }

        boolean canShare(int p, int q) {
            int u = parasolOf(q);
            return p != q && parasolOf(p) == NONE && u != NONE && squareOf(p) == squareOf(q)
                && Integer.bitCount(bearersOf(u)) < 2;
        }

        void doShare(int p, int q) {
            put(under, p, parasolOf(q));
            stillBits &= ~(1 << p);
        }

        boolean canGive(int p) {
            int u = parasolOf(p);
            return u != NONE && (squareOf(p) == STAND || Integer.bitCount(bearersOf(u)) > 1);
        }

        void doGive(int p) {
            put(under, p, NONE);
        }

        boolean canWalk(int p, int way) {
            return !isStill(p) && plan.hasSquare(nextSquareOf(p, way));
        }

        private int nextSquareOf(int p, int way) {
            return way == RIGHT ? squareOf(p) + 1 : squareOf(p) - 1;
        }

        void doWalk(int p, int way) {
            int next = nextSquareOf(p, way);
            int walkers = 1 << p;
            if (parasolOf(p) != NONE) {
                walkers |= bearersOf(parasolOf(p));
            }
            for (int q = 0; q < plan.persons; q++) {
                if (hasBit(walkers, q)) {
                    put(square, q, next);
                }
            }
            stillBits &= ~walkers;
        }

        void doMend(int u) {
            put(worn, u, 0);
        }

        void goOn(int n) {
            for (int i = 0; i < n; i++) {
                doWorks();
                met += appointments();
                standStill();
                turnParasols();
                gone++;
            }
        }

        private void doWorks() {
            for (int p = 0; p < plan.persons; p++) {
                if (!isStill(p)) {
                    doneBits |= worksOf(p, parasolOf(p));
                }
            }
        }

        private int appointments() {
            int many = 0;
            for (int u = 0; u < plan.parasols; u++) {
                for (int v = u + 1; v < plan.parasols; v++) {
                    if (hourOf(u) == hourOf(v) && squareOfParasol(u) == squareOfParasol(v)
                        && !isInStand(u) && !isInStand(v)) {
                        many++;
                    }
                }
            }
            return many;
        }

        private void standStill() {
            for (int p = 0; p < plan.persons; p++) {
                if (!hasShade(p)) {
                    stillBits |= 1 << p;
                }
            }
        }

        private void turnParasols() {
            for (int u = 0; u < plan.parasols; u++) {
                if (!isInStand(u)) {
                    put(hour, u, hourBehind(u, 1));
                    put(worn, u, wornBehind(u, 1));
                }
            }
        }

        /** The HOUR of a PARASOL behind n HOURS, anybody being under it. */
        int hourBehind(int u, int n) {
            return hourFrom(u, hourOf(u), n);
        }

        /** The same, were it this HOUR under it now. */
        int hourFrom(int u, int first, int n) {
            int kind = plan.kindOf(u);
            return (first + turnsOf(kind, gone, n) * turnOf(kind)) % DIAL;
        }

        int wornBehind(int u, int n) {
            return Math.min(THREADBARE, wornOf(u) + wearOf(plan.kindOf(u), gone, n));
        }

        int hoursUntil(int u, int h) {
            for (int n = 0; n <= FORESIGHT; n++) {
                if (hourBehind(u, n) == h) {
                    return n;
                }
            }
            return NONE;
        }

        /** Behind how many HOURS a PERSON can do what is due at this HOUR; NONE, if it can't. */
        int hoursUntilWork(int p, int h) {
            int u = parasolOf(p);
            if (isStill(p) || u == NONE) {
                return NONE;
            }
            int hours = hoursUntil(u, h);
            return hours != NONE && wornBehind(u, hours) <= SHADY ? hours : NONE;
        }

        int sumOfHours(int parasols) {
            int sum = 0;
            for (int u = 0; u < plan.parasols; u++) {
                if (hasBit(parasols, u)) {
                    sum += hourOf(u);
                }
            }
            return sum;
        }

        /** Of 10 to the n ways for flecks to fall, those by which it is this HOUR behind them. */
        int fleckedWays(int u, int h, int n, int x) {
            int kind = plan.kindOf(u);
            int turns = turnsOf(kind, gone, n);
            int ways = 0;
            for (int i = 0; i <= turns; i++) {
                if ((hourOf(u) + i * turnOf(kind)) % DIAL == h) {
                    ways += choicesOf(i, turns) * power(x, i) * power(10 - x, turns - i);
                }
            }
            return ways * power(10, n - turns);
        }

        void actByDraw(int draw) {
            int p = modulo(draw / 8, plan.persons);
            int other = draw / 64;
            int u = modulo(other, plan.parasols);
            int q = modulo(other, plan.persons);
            int act = draw % 8;
            if (act <= 1 && canTake(p, u)) {
                doTake(p, u);
            } else if (act == 2 && canShare(p, q)) {
                doShare(p, q);
            } else if (act == 3 && canGive(p)) {
                doGive(p);
            } else if (act >= 4 && act <= 6 && canWalk(p, other % 2)) {
                doWalk(p, other % 2);
            } else if (act == 7 && isInStand(u)) {
                doMend(u);
            }
        }
    }

    /** The latest moments, of which a full shelf loses the first one for each that comes. */
    private static final class Shelf {
        final Moment[] moments;
        int size;

        Shelf(int capacity, Plan plan) {
            moments = new Moment[capacity < 0 ? 0 : capacity];
            for (int i = 0; i < moments.length; i++) {
                moments[i] = new Moment(plan);
            }
        }

        boolean isEmpty() {
            return size <= 0;
        }

        boolean isFull() {
            return size >= moments.length;
        }

        void clear() {
            size = 0;
        }

        void push(Moment moment) {
            if (isFull()) {
                dropFirst();
            }
            Moment place = placeAt(size);
            if (place != null) {
                place.copyFrom(moment);
                size++;
            }
        }

        void popInto(Moment moment) {
            Moment last = placeAt(size - 1);
            if (last != null) {
                moment.copyFrom(last);
                size--;
            }
        }

        private Moment placeAt(int i) {
            return i >= 0 && i < moments.length ? moments[i] : null;
        }

        // The first one goes behind the others, to be written anew: none has to be made.
        private void dropFirst() {
            Moment first = placeAt(0);
            for (int i = 0; i + 1 < moments.length; i++) {
                moments[i] = moments[i + 1];
            }
            if (moments.length > 0) {
                moments[moments.length - 1] = first;
                size = moments.length - 1;
            }
        }
    }

    private static final class Sightings {
        final int[] hour = new int[MOST_SEEN];
        final int[] behind = new int[MOST_SEEN];
        int size;

        boolean isFull() {
            return size >= MOST_SEEN;
        }

        void add(int h, int n) {
            put(hour, size, h);
            put(behind, size, n);
            size++;
        }

        void clear() {
            size = 0;
        }

        /** Whether all that is SEEN would be so of a PARASOL, were it this HOUR under it now. */
        boolean fit(Moment now, int u, int first) {
            for (int i = 0; i < size; i++) {
                if (now.hourFrom(u, first, at(behind, i)) != at(hour, i)) {
                    return false;
                }
            }
            return true;
        }
    }

    /** The search for the way to be under PARASOLS by which most WORKS are done. */
    private static final class Deal {
        final int[] chosen = new int[MOST_PERSONS];
        final int[] best = new int[MOST_PERSONS];
        // For each PERSON, the WORKS that it and those behind it can do at best.
        final int[] reach = new int[MOST_PERSONS + 1];
        int most;

        void findBest(Moment now) {
            most = -1;
            put(reach, now.plan.persons, 0);
            for (int p = now.plan.persons - 1; p >= 0; p--) {
                put(reach, p, at(reach, p + 1) | reachOf(now, p));
            }
            choose(this, now, 0, 0, 0);
        }

        int bestOf(int p) {
            return at(best, p);
        }

        private static int reachOf(Moment now, int p) {
            if (now.isStill(p)) {
                return 0;
            }
            int bits = now.worksOf(p, NONE);
            for (int u = 0; u < now.plan.parasols; u++) {
                bits |= now.worksOf(p, u);
            }
            return bits;
        }

        // The ways come in the order in which the document prefers them, so only a better one counts.
        private static void choose(Deal deal, Moment now, int p, int used, int done) {
            if (Integer.bitCount(done | at(deal.reach, p)) <= deal.most) {
                return;
            }
            if (p >= now.plan.persons || p >= MOST_PERSONS) {
                deal.most = Integer.bitCount(done);
                copyRow(deal.chosen, deal.best);
                return;
            }
            for (int u = 0; u < now.plan.parasols && !now.isStill(p); u++) {
                if (!hasBit(used, u)) {
                    put(deal.chosen, p, u);
                    choose(deal, now, p + 1, used | 1 << u, done | now.worksOf(p, u));
                }
            }
            put(deal.chosen, p, NONE);
            choose(deal, now, p + 1, used, now.isStill(p) ? done : done | now.worksOf(p, NONE));
        }
    }
}
