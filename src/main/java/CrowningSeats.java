import java.util.Arrays;

/** An office that seats the guests of a crowning; shared/DOC.md says what it promises. */
public final class CrowningSeats {
    public static final int NONE = -1;

    private static final int NOT_IN_SEATING = -2;
    private static final int MORNING_REFUSED = -10000;
    private static final int MOST_GUESTS = 32;
    private static final int MOST_ROWS = 6;
    private static final int MOST_GATES = 4;
    private static final int MOST_STAGE = 300;
    private static final int MOST_SHUT = 2000;
    private static final int KINDS = 8;

    private final Tape tape;
    private final Guests people;
    private final Hall hall;
    private final Order order;
    private final RuleReader reader;
    private final Planner planner;
    private final Carriages carriages;
    private RuleBook book;
    private RuleBook draft;
    private Seating latest;
    private Seating idle;

    public CrowningSeats() {
        tape = new Tape();
        people = new Guests();
        hall = new Hall();
        order = new Order();
        reader = new RuleReader();
        planner = new Planner();
        carriages = new Carriages();
        book = new RuleBook();
        draft = new RuleBook();
        latest = new Seating();
        idle = new Seating();
    }

    public int feed(int a, int b, int c, int d, int e) {
        if (tape.length + Tape.BYTES_FED > Tape.LIMIT) {
            return NONE;
        }
        tape.append(a);
        tape.append(b);
        tape.append(c);
        tape.append(d);
        tape.append(e);
        return tape.length;
    }

    public boolean end(int n) {
        if (!isWithin(n, 0, tape.length)) {
            return false;
        }
        tape.length = n;
        return true;
    }

    public int guest(int kind, int date, int age, int width, int eye, int worth) {
        boolean canBe = isWithin(kind, 0, KINDS - 1) && isWithin(date, 0, 9999)
            && isWithin(age, 0, 120) && isWithin(width, 1, 6)
            && isWithin(eye, 30, 80) && isWithin(worth, 1, 1000);
        if (!canBe || people.count >= MOST_GUESTS) {
            return NONE;
        }
        int number = people.add(kind, date, age, width, eye, worth);
        order.insert(number, people, book);
        return number;
    }

    public boolean gone(int guest, boolean gone) {
        if (!people.has(guest) || people.gone[guest] == gone) {
            return false;
        }
        people.markGone(guest, gone);
        if (gone) {
            order.remove(guest);
        } else {
            order.insert(guest, people, book);
        }
        return true;
    }

    public boolean bar(int a, int b, boolean bar) {
        if (!people.has(a) || !people.has(b) || a == b || people.isBarred(a, b) == bar) {
            return false;
        }
        people.flipBar(a, b);
        people.barCount += bar ? 1 : -1;
        return true;
    }

    public int row(int wide, int floor, int deep) {
        boolean canBe = isWithin(wide, 4, 40) && isWithin(floor, 0, 300) && isWithin(deep, 20, 60);
        if (!canBe || hall.count >= MOST_ROWS) {
            return NONE;
        }
        hall.add(wide, floor, deep);
        return hall.count;
    }

    public boolean set(int stage, int free, int empty) {
        if (!isWithin(stage, 0, MOST_STAGE) || !isWithin(free, 1, 4) || !isWithin(empty, 0, 1000)) {
            return false;
        }
        hall.stageHeight = stage;
        hall.freePlaces = free;
        hall.emptyCost = empty;
        return true;
    }

    public int rules() {
        boolean good = reader.read(tape, draft);
        tape.length = 0;
        if (!good) {
            return NONE;
        }
        RuleBook old = book;
        book = draft;
        draft = old;
        order.rebuild(people, book);
        return book.lines;
    }

    public int fault(int what) {
        if (what == 0) {
            return reader.faultKind;
        }
        return what == 1 ? reader.faultPlace : NONE;
    }

    public int rank(int guest) {
        return order.indexOf(guest);
    }

    public int ranked(int i) {
        return isWithin(i, 0, order.count - 1) ? order.list[i] : NONE;
    }

    public int seat(boolean anew) {
        Seating next = idle;
        planner.prepare(people, order, latest, anew);
        int cost = planner.plan(hall, next);
        idle = latest;
        latest = next;
        return cost;
    }

    public int moved() {
        return latest.isMade ? latest.movedCount : NONE;
    }

    public int sits(int guest, int what) {
        if (!latest.holds(guest) || !isWithin(what, 0, 2)) {
            return NOT_IN_SEATING;
        }
        if (what == 0 || !latest.isSeated(guest)) {
            return latest.rowOf[guest];
        }
        int first = latest.placeOf[guest];
        return what == 1 ? first : first + people.width[guest] - 1;
    }

    public int at(int row, int place) {
        return latest.sitterAt(row, place, people);
    }

    public int spare(int row) {
        Bench bench = hall.benchAt(row);
        if (bench == null || row >= latest.rows) {
            return NONE;
        }
        return bench.wide - latest.placesTaken(row, people);
    }

    public int hidden(int guest) {
        return latest.isSeated(guest) ? Sight.countHiders(guest, latest, people, hall) : NONE;
    }

    public int hider(int guest, int k) {
        return latest.isSeated(guest) ? Sight.findHider(guest, k, latest, people, hall) : NONE;
    }

    public int stage(int guest) {
        if (!latest.isSeated(guest)) {
            return NONE;
        }
        int least = Sight.leastClearStage(guest, latest, people, hall);
        return least <= MOST_STAGE ? least : NONE;
    }

    public int morning(int gates, int shut) {
        boolean canBe = isWithin(gates, 1, MOST_GATES) && isWithin(shut, 0, MOST_SHUT);
        if (!canBe || latest.lineCount == 0) {
            return MORNING_REFUSED;
        }
        return shut - carriages.arrange(latest, people, gates);
    }

    public int comes(int guest, int what) {
        if (!people.has(guest)) {
            return NONE;
        }
        switch (what) {
            case 0: return carriages.minuteOf[guest];
            case 1: return carriages.gateOf[guest];
            case 2: return carriages.turnOf[guest];
            default: return NONE;
        }
    }

    public int all(int what) {
        switch (what) {
            case 0: return people.count;
            case 1: return people.goneCount;
            case 2: return hall.count;
            case 3: return people.barCount;
            case 4: return order.count;
            case 5: return latest.lineCount;
            case 6: return Sight.countSeeing(latest, people, hall);
            default: return NONE;
        }
    }

    private static boolean isWithin(int number, int least, int most) {
        return number >= least && number <= most;
    }

    /** The bytes that have been fed and not yet read as rules. */
    private static final class Tape {
        static final int LIMIT = 200;
        static final int BYTES_FED = 20;

        final byte[] bytes = new byte[LIMIT];
        int length;

        void append(int number) {
            for (int shift = 24; shift >= 0; shift -= 8) {
                if (length < LIMIT) {
                    bytes[length] = (byte) (number >>> shift);
                    length++;
                }
            }
        }

        int byteAt(int i) {
            return isWithin(i, 0, length - 1) ? bytes[i] & 255 : NONE;
        }
    }

    private static final class Guests {
        final int[] kind = new int[MOST_GUESTS];
        final int[] date = new int[MOST_GUESTS];
        final int[] age = new int[MOST_GUESTS];
        final int[] width = new int[MOST_GUESTS];
        final int[] eye = new int[MOST_GUESTS];
        final int[] worth = new int[MOST_GUESTS];
        final boolean[] gone = new boolean[MOST_GUESTS];
        /** Of each guest a bit for each other one with whom there is a bar. */
        final int[] bars = new int[MOST_GUESTS];
        int count;
        int goneCount;
        int barCount;

        boolean has(int guest) {
            return isWithin(guest, 0, count - 1);
        }

        int add(int itsKind, int itsDate, int itsAge, int itsWidth, int itsEye, int itsWorth) {
            int number = count;
            if (number >= MOST_GUESTS) {
                return NONE;
            }
            kind[number] = itsKind;
            date[number] = itsDate;
            age[number] = itsAge;
            width[number] = itsWidth;
            eye[number] = itsEye;
            worth[number] = itsWorth;
            count++;
            return number;
        }

        void markGone(int guest, boolean isGone) {
            gone[guest] = isGone;
            goneCount += isGone ? 1 : -1;
        }

        boolean isBarred(int a, int b) {
            return (bars[a] >>> b & 1) != 0;
        }

        void flipBar(int a, int b) {
            bars[a] ^= 1 << b;
            bars[b] ^= 1 << a;
        }

        int valueOf(int field, int guest) {
            switch (field) {
                case RuleReader.DATE: return date[guest];
                case RuleReader.AGE: return age[guest];
                case RuleReader.WORTH: return worth[guest];
                case RuleReader.WIDTH: return width[guest];
                default: return eye[guest];
            }
        }
    }

    /** A row, with the planner's tables for it: they are as long as this row needs, and used again. */
    private static final class Bench {
        final int number;
        final int wide;
        final int floor;
        /** Inches from the rail. */
        final int distance;
        /** Of (i, used): the least price of the i-th guest and all behind, if the last one here has no bar with them. */
        final int[] rest;
        /** Of (i, place): the least price of all behind the i-th guest, who sits here from that place on. */
        final int[] after;
        /** Of i: the least price of the i-th guest and all behind, if they have the rows behind this one alone. */
        final int[] behind;

        Bench(int number, int wide, int floor, int distance) {
            this.number = number;
            this.wide = wide;
            this.floor = floor;
            this.distance = distance;
            rest = new int[(MOST_GUESTS + 1) * (wide + 1)];
            after = new int[MOST_GUESTS * (wide + 1)];
            behind = new int[MOST_GUESTS + 1];
        }

        int slot(int i, int place) {
            return i * (wide + 1) + place;
        }
    }

    private static final class Hall {
        final Bench[] benches = new Bench[MOST_ROWS];
        int count;
        int stageHeight = 60;
        int freePlaces = 1;
        int emptyCost = 5;

        void add(int wide, int floor, int deep) {
            if (count < MOST_ROWS) {
                Bench ahead = benchAt(count - 1);
                int distance = ahead == null ? deep : ahead.distance + deep;
                benches[count] = new Bench(count, wide, floor, distance);
                count++;
            }
        }

        /** Null if there is none such. */
        Bench benchAt(int row) {
            return isWithin(row, 0, count - 1) ? benches[row] : null;
        }
    }

    /** What a text of rules says. */
    private static final class RuleBook {
        /** A key takes eight bytes at least, and a byte that parts it from the next one. */
        static final int MOST_KEYS = Tape.LIMIT / 8;

        final int[] lineOfKind = new int[KINDS];
        final int[] keyEnd = new int[KINDS];
        final int[] keyField = new int[MOST_KEYS];
        final boolean[] keyIsMost = new boolean[MOST_KEYS];
        int keyCount;
        int lines;

        RuleBook() {
            clear();
        }

        void clear() {
            Arrays.fill(lineOfKind, NONE);
            keyCount = 0;
            lines = 0;
        }

        boolean hasKind(int kind) {
            return lineOfKind[kind] != NONE;
        }

        void addKind(int kind) {
            lineOfKind[kind] = lines;
        }

        void addKey(int field, boolean isMost) {
            if (keyCount < MOST_KEYS) {
                keyField[keyCount] = field;
                keyIsMost[keyCount] = isMost;
                keyCount++;
            }
        }

        void closeLine() {
            if (lines < KINDS) {
                keyEnd[lines] = keyCount;
                lines++;
            }
        }

        /** For two guests whose kinds are in the text. */
        boolean isAhead(int a, int b, Guests people) {
            int line = lineOfKind[people.kind[a]];
            int otherLine = lineOfKind[people.kind[b]];
            if (line != otherLine || !isWithin(line, 0, lines - 1)) {
                return line < otherLine;
            }
            for (int k = line == 0 ? 0 : keyEnd[line - 1]; k < keyEnd[line]; k++) {
                int value = people.valueOf(keyField[k], a);
                int otherValue = people.valueOf(keyField[k], b);
                if (value != otherValue) {
                    return keyIsMost[k] ? value > otherValue : value < otherValue;
                }
            }
            return a < b;
        }
    }

    /** Reads a tape into a rule book, and keeps the fault of the latest reading. */
    private static final class RuleReader {
        // The tokens; 0 to 7 are the letters a to h.
        static final int BY = 8;
        static final int LEAST = 9;
        static final int MOST = 10;
        static final int DATE = 11;
        static final int AGE = 12;
        static final int WORTH = 13;
        static final int WIDTH = 14;
        static final int EYE = 15;
        static final int COMMA = 16;
        static final int SEMICOLON = 17;
        static final int TEXT_END = 18;
        static final int STRANGE = 19;

        // What is due next.
        static final int LINE_OR_END = 0;
        static final int LETTER = 1;
        static final int BEHIND_LETTER = 2;
        static final int LEAST_OR_MOST = 3;
        static final int FIELD = 4;
        static final int BEHIND_KEY = 5;

        static final int FAULTLESS = 0;
        static final int NO_TEXT = 1;
        static final int LETTER_AGAIN = 2;

        int faultKind;
        int faultPlace = NONE;
        private int due;
        private int next;
        private int tokenPlace;
        private boolean isMost;

        boolean read(Tape tape, RuleBook into) {
            into.clear();
            due = LINE_OR_END;
            next = 0;
            faultKind = FAULTLESS;
            faultPlace = NONE;
            // Each token takes a byte at least, but for the text's end.
            for (int count = 0; count <= Tape.LIMIT; count++) {
                int token = nextToken(tape);
                if (token == TEXT_END && due == LINE_OR_END) {
                    return true;
                }
                faultKind = take(token, into);
                if (faultKind != FAULTLESS) {
                    faultPlace = tokenPlace;
                    return false;
                }
            }
            return false;
        }

        private int nextToken(Tape tape) {
            skipBlanks(tape);
            tokenPlace = next;
            if (next >= tape.length) {
                return TEXT_END;
            }
            if (isWordByte(tape.byteAt(next))) {
                return wordToken(tape);
            }
            next++;
            switch (tape.byteAt(tokenPlace)) {
                case ',': return COMMA;
                case ';': return SEMICOLON;
                default: return STRANGE;
            }
        }

        private void skipBlanks(Tape tape) {
            while (next < tape.length && (tape.byteAt(next) == 10 || tape.byteAt(next) == 32)) {
                next++;
            }
        }

        private int wordToken(Tape tape) {
            while (next < tape.length && isWordByte(tape.byteAt(next))) {
                next++;
            }
            int first = tape.byteAt(tokenPlace);
            if (next - tokenPlace == 1) {
                return first <= 'h' ? first - 'a' : STRANGE;
            }
            switch (first) {
                case 'b': return isWord(tape, "by") ? BY : STRANGE;
                case 'l': return isWord(tape, "least") ? LEAST : STRANGE;
                case 'm': return isWord(tape, "most") ? MOST : STRANGE;
                case 'd': return isWord(tape, "date") ? DATE : STRANGE;
                case 'a': return isWord(tape, "age") ? AGE : STRANGE;
                case 'w': return isWord(tape, "worth") ? WORTH : isWord(tape, "width") ? WIDTH : STRANGE;
                case 'e': return isWord(tape, "eye") ? EYE : STRANGE;
                default: return STRANGE;
            }
        }

        private boolean isWord(Tape tape, String word) {
            if (next - tokenPlace != word.length()) {
                return false;
            }
            for (int i = 0; i < word.length(); i++) {
                if (tape.byteAt(tokenPlace + i) != word.charAt(i)) {
                    return false;
                }
            }
            return true;
        }

        private static boolean isWordByte(int b) {
            return isWithin(b, 'a', 'z');
        }

        private int take(int token, RuleBook into) {
            switch (due) {
                case BEHIND_LETTER:
                    return token == BY ? goOn(LEAST_OR_MOST) : takeSeparator(token, LETTER, into);
                case LEAST_OR_MOST:
                    isMost = token == MOST;
                    return isMost || token == LEAST ? goOn(FIELD) : NO_TEXT;
                case FIELD:
                    return takeField(token, into);
                case BEHIND_KEY:
                    return takeSeparator(token, LEAST_OR_MOST, into);
                default:
                    return takeLetter(token, into);
            }
        }

        private int takeLetter(int token, RuleBook into) {
            if (!isWithin(token, 0, KINDS - 1)) {
                return NO_TEXT;
            }
            if (into.hasKind(token)) {
                return LETTER_AGAIN;
            }
            into.addKind(token);
            return goOn(BEHIND_LETTER);
        }

        private int takeField(int token, RuleBook into) {
            if (!isWithin(token, DATE, EYE)) {
                return NO_TEXT;
            }
            into.addKey(token, isMost);
            return goOn(BEHIND_KEY);
        }

        private int takeSeparator(int token, int dueBehindComma, RuleBook into) {
            if (token == COMMA) {
                return goOn(dueBehindComma);
            }
            if (token != SEMICOLON) {
                return NO_TEXT;
            }
            into.closeLine();
            return goOn(LINE_OR_END);
        }

        private int goOn(int dueNow) {
            due = dueNow;
            return FAULTLESS;
        }
    }

    /** The guests of the order, kept sorted as they come, go, and as the rules change. */
    private static final class Order {
        final int[] list = new int[MOST_GUESTS];
        int count;

        void insert(int guest, Guests people, RuleBook book) {
            if (count >= MOST_GUESTS || !book.hasKind(people.kind[guest])) {
                return;
            }
            int i = count;
            while (i > 0 && book.isAhead(guest, list[i - 1], people)) {
                list[i] = list[i - 1];
                i--;
            }
            list[i] = guest;
            count++;
        }

        void remove(int guest) {
            int i = indexOf(guest);
            if (i == NONE) {
                return;
            }
            count--;
            for (int k = i; k < count; k++) {
                list[k] = list[k + 1];
            }
        }

        void rebuild(Guests people, RuleBook book) {
            count = 0;
            for (int guest = 0; guest < people.count; guest++) {
                if (!people.gone[guest]) {
                    insert(guest, people, book);
                }
            }
        }

        int indexOf(int guest) {
            for (int i = 0; i < count; i++) {
                if (list[i] == guest) {
                    return i;
                }
            }
            return NONE;
        }
    }

    /** Where all sat when a seating was made. */
    private static final class Seating {
        final int[] rowOf = new int[MOST_GUESTS];
        final int[] placeOf = new int[MOST_GUESTS];
        /** Those who sit, by rows, then places. */
        final int[] line = new int[MOST_GUESTS];
        int lineCount;
        int rows;
        int movedCount;
        boolean isMade;

        Seating() {
            clear();
        }

        private void clear() {
            Arrays.fill(rowOf, NOT_IN_SEATING);
            Arrays.fill(placeOf, NONE);
            lineCount = 0;
        }

        void begin(int rowsNow) {
            clear();
            rows = rowsNow;
            isMade = true;
        }

        void leaveOut(int guest) {
            rowOf[guest] = NONE;
        }

        void sitDown(int guest, int row, int place) {
            rowOf[guest] = row;
            placeOf[guest] = place;
            if (lineCount < MOST_GUESTS) {
                line[lineCount] = guest;
                lineCount++;
            }
        }

        boolean holds(int guest) {
            return isWithin(guest, 0, MOST_GUESTS - 1) && rowOf[guest] != NOT_IN_SEATING;
        }

        boolean isSeated(int guest) {
            return holds(guest) && rowOf[guest] != NONE;
        }

        int sitterAt(int row, int place, Guests people) {
            for (int i = 0; i < lineCount; i++) {
                int guest = line[i];
                int first = placeOf[guest];
                if (rowOf[guest] == row && isWithin(place, first, first + people.width[guest] - 1)) {
                    return guest;
                }
            }
            return NONE;
        }

        int placesTaken(int row, Guests people) {
            int taken = 0;
            for (int i = 0; i < lineCount; i++) {
                if (rowOf[line[i]] == row) {
                    taken += people.width[line[i]];
                }
            }
            return taken;
        }
    }

    /**
     * Finds the best seating. A price is the cost and, below it, how many move, so that the least price is what is
     * asked for; guests are counted here by their index in the order.
     */
    private static final class Planner {
        /** More than all the guests who could move. */
        static final int COST_UNIT = 64;

        private final int[] guests = new int[MOST_GUESTS];
        private final int[] width = new int[MOST_GUESTS];
        private final int[] outPrice = new int[MOST_GUESTS];
        private final int[] bars = new int[MOST_GUESTS];
        private final int[] lastBar = new int[MOST_GUESTS];
        private final int[] aheadRow = new int[MOST_GUESTS];
        private final int[] aheadPlace = new int[MOST_GUESTS];
        /** Of i: the price if the i-th guest and all behind are left out. */
        private final int[] nobody = new int[MOST_GUESTS + 1];
        private int count;
        private int movePrice;
        private int freePlaces;
        private int barPrice;
        // The end of the row that is being filled: its places in use, and who sits last.
        private int used;
        private int last;

        /** A seating ahead that was never made has nobody in it, so all count as left out there. */
        void prepare(Guests people, Order order, Seating ahead, boolean countsMoves) {
            count = order.count;
            movePrice = countsMoves ? 1 : 0;
            nobody[count] = 0;
            for (int i = count - 1; i >= 0; i--) {
                int guest = order.list[i];
                boolean sat = ahead.isSeated(guest);
                guests[i] = guest;
                width[i] = people.width[guest];
                aheadRow[i] = sat ? ahead.rowOf[guest] : NONE;
                aheadPlace[i] = sat ? ahead.placeOf[guest] : NONE;
                outPrice[i] = people.worth[guest] * COST_UNIT + (sat ? movePrice : 0);
                nobody[i] = nobody[i + 1] + outPrice[i];
                noteBars(i, people);
            }
        }

        /** Those behind alone: the guests from the index on are known already. */
        private void noteBars(int i, Guests people) {
            bars[i] = 0;
            lastBar[i] = NONE;
            for (int k = i + 1; k < count; k++) {
                if (people.isBarred(guests[i], guests[k])) {
                    bars[i] |= 1 << k;
                    lastBar[i] = k;
                }
            }
        }

        int plan(Hall hall, Seating next) {
            freePlaces = hall.freePlaces;
            barPrice = hall.emptyCost * COST_UNIT;
            for (int row = hall.count - 1; row >= 0; row--) {
                fillTables(hall.benchAt(row), hall.benchAt(row + 1));
            }
            next.begin(hall.count);
            walk(hall, next);
            next.movedCount = countMoved(next);
            return priceFrom(hall.benchAt(0), 0) / COST_UNIT;
        }

        /** The least price of the i-th guest and all behind from this row on, while nobody sits there. */
        private int priceFrom(Bench bench, int i) {
            return bench == null ? nobody[i] : bench.rest[bench.slot(i, 0)];
        }

        private void fillTables(Bench bench, Bench nextBench) {
            if (bench == null) {
                return;
            }
            for (int place = 0; place <= bench.wide; place++) {
                bench.rest[bench.slot(count, place)] = 0;
            }
            for (int i = count - 1; i >= 0; i--) {
                bench.behind[i] = priceFrom(nextBench, i);
                fillForGuest(bench, i);
            }
        }

        private void fillForGuest(Bench bench, int i) {
            for (int place = 0; place <= bench.wide; place++) {
                int best = Math.min(bench.behind[i], outPrice[i] + bench.rest[bench.slot(i + 1, place)]);
                int end = place + width[i];
                if (end <= bench.wide) {
                    bench.after[bench.slot(i, place)] = priceBeside(bench, i + 1, i, end);
                    best = Math.min(best, sitPrice(bench, i, place));
                }
                bench.rest[bench.slot(i, place)] = best;
            }
        }

        /** The least price of the guests from an index on, while the neighbour is the last one in the row. */
        private int priceBeside(Bench bench, int from, int neighbour, int end) {
            int unbarred = neighbour == NONE ? from : Math.max(from, lastBar[neighbour] + 1);
            int best = bench.rest[bench.slot(unbarred, end)];
            for (int i = unbarred - 1; i >= from; i--) {
                best = Math.min(bench.behind[i], outPrice[i] + best);
                boolean barred = isBarred(neighbour, i);
                int place = barred ? end + freePlaces : end;
                if (place + width[i] <= bench.wide) {
                    best = Math.min(best, sitPrice(bench, i, place) + (barred ? barPrice : 0));
                }
            }
            return best;
        }

        /** The least price of the i-th guest, who sits here, and all behind. */
        private int sitPrice(Bench bench, int i, int place) {
            int price = bench.after[bench.slot(i, place)];
            return isElsewhere(i, bench.number, place) ? price + movePrice : price;
        }

        private boolean isElsewhere(int i, int row, int place) {
            return aheadRow[i] != row || aheadPlace[i] != place;
        }

        private boolean isBarred(int neighbour, int i) {
            return neighbour != NONE && (bars[neighbour] >>> i & 1) != 0;
        }

        /** Takes, guest by guest, the least row with which the least price can still be had. */
        private void walk(Hall hall, Seating next) {
            int row = 0;
            used = 0;
            last = NONE;
            for (int i = 0; i < count; i++) {
                int chosen = chooseRow(hall, row, i);
                if (chosen == NONE) {
                    next.leaveOut(guests[i]);
                } else {
                    int place = chosen == row ? placeBeside(i) : 0;
                    next.sitDown(guests[i], chosen, place);
                    row = chosen;
                    used = place + width[i];
                    last = i;
                }
            }
        }

        private int chooseRow(Hall hall, int row, int i) {
            Bench here = hall.benchAt(row);
            if (here == null) {
                return NONE;
            }
            int best = priceBeside(here, i, last, used);
            int barPart = isBarred(last, i) ? barPrice : 0;
            if (canSitFor(best - barPart, here, i, placeBeside(i))) {
                return row;
            }
            for (int r = row + 1; r < hall.count; r++) {
                if (canSitFor(best, hall.benchAt(r), i, 0)) {
                    return r;
                }
            }
            return NONE;
        }

        private boolean canSitFor(int price, Bench bench, int i, int place) {
            return bench != null && place + width[i] <= bench.wide && sitPrice(bench, i, place) == price;
        }

        private int placeBeside(int i) {
            return isBarred(last, i) ? used + freePlaces : used;
        }

        private int countMoved(Seating next) {
            int moves = 0;
            for (int i = 0; i < count; i++) {
                if (isElsewhere(i, next.rowOf[guests[i]], next.placeOf[guests[i]])) {
                    moves++;
                }
            }
            return moves;
        }
    }

    /** Who hides the stage from whom in a seating. */
    private static final class Sight {
        /** Inches from the eye to the head's top. */
        static final int HEAD_ABOVE_EYE = 5;

        static int countHiders(int guest, Seating seating, Guests people, Hall hall) {
            int hiders = 0;
            for (int i = 0; i < seating.lineCount; i++) {
                if (isHiding(seating.line[i], guest, seating, people, hall)) {
                    hiders++;
                }
            }
            return hiders;
        }

        static int findHider(int guest, int k, Seating seating, Guests people, Hall hall) {
            int hiders = 0;
            for (int i = 0; i < seating.lineCount; i++) {
                if (isHiding(seating.line[i], guest, seating, people, hall)) {
                    if (hiders == k) {
                        return seating.line[i];
                    }
                    hiders++;
                }
            }
            return NONE;
        }

        static int countSeeing(Seating seating, Guests people, Hall hall) {
            int seeing = 0;
            for (int i = 0; i < seating.lineCount; i++) {
                if (countHiders(seating.line[i], seating, people, hall) == 0) {
                    seeing++;
                }
            }
            return seeing;
        }

        /** May be above what a stage can be. */
        static int leastClearStage(int guest, Seating seating, Guests people, Hall hall) {
            int least = 0;
            for (int i = 0; i < seating.lineCount; i++) {
                if (isBefore(seating.line[i], guest, seating, people)) {
                    least = Math.max(least, clearFrom(seating.line[i], guest, seating, people, hall));
                }
            }
            return least;
        }

        private static boolean isHiding(int other, int guest, Seating seating, Guests people, Hall hall) {
            return isBefore(other, guest, seating, people)
                && hall.stageHeight < clearFrom(other, guest, seating, people, hall);
        }

        /** Whether the other one sits in a lesser row, straight before the middle of the guest. */
        private static boolean isBefore(int other, int guest, Seating seating, Guests people) {
            if (seating.rowOf[other] >= seating.rowOf[guest]) {
                return false;
            }
            int twiceMiddle = 2 * seating.placeOf[guest] + people.width[guest];
            int twiceLeft = 2 * seating.placeOf[other];
            return isWithin(twiceMiddle, twiceLeft, twiceLeft + 2 * people.width[other] - 1);
        }

        /**
         * The least whole height of the stage at which the other one's head is not above the line. The head is above it
         * if (head - stage) * far > (eye - stage) * near, which a higher stage can only mend, as far is beyond near.
         */
        private static int clearFrom(int other, int guest, Seating seating, Guests people, Hall hall) {
            Bench near = hall.benchAt(seating.rowOf[other]);
            Bench far = hall.benchAt(seating.rowOf[guest]);
            if (near == null || far == null || far.distance <= near.distance) {
                return 0;
            }
            int head = near.floor + people.eye[other] + HEAD_ABOVE_EYE;
            int eye = far.floor + people.eye[guest];
            int over = head * far.distance - eye * near.distance;
            return -Math.floorDiv(-over, far.distance - near.distance);
        }
    }

    /** The latest morning: when, and to which gate, the carriages come. */
    private static final class Carriages {
        final int[] minuteOf = new int[MOST_GUESTS];
        final int[] gateOf = new int[MOST_GUESTS];
        final int[] turnOf = new int[MOST_GUESTS];
        private final int[] freeFrom = new int[MOST_GATES];

        Carriages() {
            clear();
        }

        private void clear() {
            Arrays.fill(minuteOf, NONE);
            Arrays.fill(gateOf, NONE);
            Arrays.fill(turnOf, NONE);
            Arrays.fill(freeFrom, 0);
        }

        /** The minute at which the last gate is free again. */
        int arrange(Seating seating, Guests people, int gates) {
            clear();
            int minute = 0;
            int end = 0;
            for (int turn = 0; turn < seating.lineCount; turn++) {
                int guest = seating.line[seating.lineCount - 1 - turn];
                minute = Math.max(minute, firstFreeMinute(gates));
                int gate = firstFreeGate(gates, minute);
                minuteOf[guest] = minute;
                gateOf[guest] = gate;
                turnOf[guest] = turn;
                freeFrom[gate] = minute + people.width[guest];
                end = Math.max(end, freeFrom[gate]);
            }
            return end;
        }

        private int firstFreeMinute(int gates) {
            int first = freeFrom[0];
            for (int gate = 1; gate < gates && gate < MOST_GATES; gate++) {
                first = Math.min(first, freeFrom[gate]);
            }
            return first;
        }

        private int firstFreeGate(int gates, int minute) {
            for (int gate = 0; gate < gates && gate < MOST_GATES; gate++) {
                if (freeFrom[gate] <= minute) {
                    return gate;
                }
            }
            return 0;
        }
    }
}
