import java.math.BigInteger;
import java.util.ArrayList;
import java.util.Comparator;
import java.util.HashMap;
import java.util.HashSet;
import java.util.List;
import java.util.Map;
import java.util.Set;
import java.util.TreeMap;
import java.util.regex.Matcher;
import java.util.regex.Pattern;

/**
 * The document written down a second time, slowly and with the library, in other ways than the class: it tries all
 * seatings where there are few, looks at each stage in turn, and lets the morning pass minute by minute.
 */
final class ModelOffice implements Office {
    record Guest(int number, int kind, int date, int age, int width, int eye, int worth) { }
    record Row(int wide, int floor, int distance) { }
    record Key(boolean most, String field) { }
    record Line(List<Integer> kinds, List<Key> keys) { }
    record Spot(int row, int place) { }
    record Carriage(int minute, int gate, int turn) { }
    /** What is left to pay for the guests from some index on, and their rows (6: left out). */
    record Tail(int cost, int moves, String rows) { }

    private static final class Fault extends RuntimeException {
        private static final long serialVersionUID = 1;
        final int kind;
        final int place;
        Fault(int kind, int place) {
            this.kind = kind;
            this.place = place;
        }
    }

    private static final int BRUTE_FORCE_UP_TO = 5;
    private static final int OUT = 6;

    private final List<Integer> tape = new ArrayList<>();
    private final List<Guest> guests = new ArrayList<>();
    private final Set<Integer> goneOnes = new HashSet<>();
    private final Set<List<Integer>> bars = new HashSet<>();
    private final List<Row> rowList = new ArrayList<>();
    private int stageNow = 60;
    private int free = 1;
    private int empty = 5;
    private List<Line> lines = new ArrayList<>();
    private int faultKind = 0;
    private int faultPlace = -1;
    /** Null without a seating; left out ones have a null spot. */
    private Map<Integer, Spot> seating = null;
    private int rowsThen = 0;
    private int movedThen = -1;
    private Map<Integer, Carriage> carriages = new HashMap<>();

    public int feed(int a, int b, int c, int d, int e) {
        if (tape.size() > 180) return -1;
        for (int number : new int[] {a, b, c, d, e}) {
            tape.add(number >> 24 & 255);
            tape.add(number >> 16 & 255);
            tape.add(number >> 8 & 255);
            tape.add(number & 255);
        }
        return tape.size();
    }

    public boolean end(int n) {
        if (n < 0 || n > tape.size()) return false;
        tape.subList(n, tape.size()).clear();
        return true;
    }

    public int guest(int kind, int date, int age, int width, int eye, int worth) {
        if (kind < 0 || kind > 7 || date < 0 || date > 9999 || age < 0 || age > 120) return -1;
        if (width < 1 || width > 6 || eye < 30 || eye > 80 || worth < 1 || worth > 1000) return -1;
        if (guests.size() == 32) return -1;
        guests.add(new Guest(guests.size(), kind, date, age, width, eye, worth));
        return guests.size() - 1;
    }

    private boolean isGuest(int guest) {
        return guest >= 0 && guest < guests.size();
    }

    public boolean gone(int guest, boolean gone) {
        if (!isGuest(guest)) return false;
        return gone ? goneOnes.add(guest) : goneOnes.remove(guest);
    }

    public boolean bar(int a, int b, boolean bar) {
        if (!isGuest(a) || !isGuest(b) || a == b) return false;
        List<Integer> pair = List.of(Math.min(a, b), Math.max(a, b));
        return bar ? bars.add(pair) : bars.remove(pair);
    }

    private boolean haveBar(int a, int b) {
        return bars.contains(List.of(Math.min(a, b), Math.max(a, b)));
    }

    public int row(int wide, int floor, int deep) {
        if (wide < 4 || wide > 40 || floor < 0 || floor > 300 || deep < 20 || deep > 60) return -1;
        if (rowList.size() == 6) return -1;
        int before = rowList.isEmpty() ? 0 : rowList.get(rowList.size() - 1).distance();
        rowList.add(new Row(wide, floor, before + deep));
        return rowList.size();
    }

    public boolean set(int stage, int freeNow, int emptyNow) {
        if (stage < 0 || stage > 300 || freeNow < 1 || freeNow > 4 || emptyNow < 0 || emptyNow > 1000) return false;
        stageNow = stage;
        free = freeNow;
        empty = emptyNow;
        return true;
    }

    // The rules: words and signs by a pattern, then one method for each part of the grammar.

    private final List<String> words = new ArrayList<>();
    private final List<Integer> wordPlaces = new ArrayList<>();
    private int word;

    public int rules() {
        StringBuilder text = new StringBuilder();
        for (int b : tape) text.append((char) b);
        tape.clear();
        words.clear();
        wordPlaces.clear();
        word = 0;
        Matcher matcher = Pattern.compile("[a-z]+|[^ \\n]", Pattern.DOTALL).matcher(text);
        while (matcher.find()) {
            words.add(matcher.group());
            wordPlaces.add(matcher.start());
        }
        words.add("");
        wordPlaces.add(text.length());
        faultKind = 0;
        faultPlace = -1;
        try {
            lines = readText();
            return lines.size();
        } catch (Fault fault) {
            faultKind = fault.kind;
            faultPlace = fault.place;
            return -1;
        }
    }

    private List<Line> readText() {
        List<Line> read = new ArrayList<>();
        Set<Integer> seen = new HashSet<>();
        while (!words.get(word).isEmpty()) {
            List<Integer> kinds = new ArrayList<>();
            List<Key> keys = new ArrayList<>();
            do kinds.add(readLetter(seen)); while (accept(","));
            if (accept("by")) {
                do keys.add(readKey()); while (accept(","));
            }
            if (!accept(";")) throw new Fault(1, wordPlaces.get(word));
            read.add(new Line(kinds, keys));
        }
        return read;
    }

    private boolean accept(String wanted) {
        if (!words.get(word).equals(wanted)) return false;
        word++;
        return true;
    }

    private int readLetter(Set<Integer> seen) {
        String letter = words.get(word);
        if (!letter.matches("[a-h]")) throw new Fault(1, wordPlaces.get(word));
        if (!seen.add(letter.charAt(0) - 'a')) throw new Fault(2, wordPlaces.get(word));
        word++;
        return letter.charAt(0) - 'a';
    }

    private Key readKey() {
        boolean most = words.get(word).equals("most");
        if (!accept("most") && !accept("least")) throw new Fault(1, wordPlaces.get(word));
        String field = words.get(word);
        if (!field.matches("date|age|worth|width|eye")) throw new Fault(1, wordPlaces.get(word));
        word++;
        return new Key(most, field);
    }

    public int fault(int what) {
        return what == 0 ? faultKind : what == 1 ? faultPlace : -1;
    }

    private static int field(Guest guest, String name) {
        return switch (name) {
            case "date" -> guest.date();
            case "age" -> guest.age();
            case "worth" -> guest.worth();
            case "width" -> guest.width();
            default -> guest.eye();
        };
    }

    private List<Guest> order() {
        List<Guest> order = new ArrayList<>();
        for (Line line : lines) {
            List<Guest> part = new ArrayList<>();
            for (Guest guest : guests) {
                if (!goneOnes.contains(guest.number()) && line.kinds().contains(guest.kind())) part.add(guest);
            }
            Comparator<Guest> comparator = (a, b) -> 0;
            for (Key key : line.keys()) {
                Comparator<Guest> by = Comparator.comparingInt(guest -> field(guest, key.field()));
                comparator = comparator.thenComparing(key.most() ? by.reversed() : by);
            }
            part.sort(comparator.thenComparing(Comparator.comparingInt(Guest::number)));
            order.addAll(part);
        }
        return order;
    }

    public int rank(int guest) {
        List<Guest> order = order();
        for (int i = 0; i < order.size(); i++) {
            if (order.get(i).number() == guest) return i;
        }
        return -1;
    }

    public int ranked(int i) {
        List<Guest> order = order();
        return i >= 0 && i < order.size() ? order.get(i).number() : -1;
    }

    // The seating.

    private List<Guest> planned;
    private Map<Integer, Spot> ahead;
    private boolean countsMoves;

    public int seat(boolean anew) {
        planned = order();
        ahead = seating == null ? Map.of() : seating;
        countsMoves = anew;
        Tail best = planned.size() <= BRUTE_FORCE_UP_TO
            ? tryAll("") : bestTail(0, 0, 0, -1, new HashMap<>());
        Map<Integer, Spot> next = spots(best.rows());
        movedThen = 0;
        for (Guest guest : planned) {
            if (isElsewhere(guest, next.get(guest.number()))) movedThen++;
        }
        seating = next;
        rowsThen = rowList.size();
        return best.cost();
    }

    private boolean isElsewhere(Guest guest, Spot spot) {
        Spot before = ahead.get(guest.number());
        return before == null ? spot != null : !before.equals(spot);
    }

    private static Tail better(Tail a, Tail b) {
        if (a == null || b == null) return a == null ? b : a;
        if (a.cost() != b.cost()) return a.cost() < b.cost() ? a : b;
        if (a.moves() != b.moves()) return a.moves() < b.moves() ? a : b;
        return a.rows().compareTo(b.rows()) <= 0 ? a : b;
    }

    /** All words of rows, each looked at as a whole. */
    private Tail tryAll(String rows) {
        if (rows.length() == planned.size()) return judge(rows);
        Tail best = null;
        for (int row = 0; row <= OUT; row++) {
            if (row == OUT || row < rowList.size()) best = better(best, tryAll(rows + row));
        }
        return best;
    }

    private Tail judge(String rows) {
        Map<Integer, Spot> spots = spots(rows);
        if (spots == null) return null;
        int cost = 0;
        int moves = 0;
        Guest neighbour = null;
        for (Guest guest : planned) {
            Spot spot = spots.get(guest.number());
            if (countsMoves && isElsewhere(guest, spot)) moves++;
            if (spot == null) {
                cost += guest.worth();
                continue;
            }
            if (neighbour != null && spots.get(neighbour.number()).row() == spot.row()
                && haveBar(neighbour.number(), guest.number())) cost += empty;
            neighbour = guest;
        }
        return new Tail(cost, moves, rows);
    }

    /** Null if it is no seating. */
    private Map<Integer, Spot> spots(String rows) {
        Map<Integer, Spot> spots = new TreeMap<>();
        Guest neighbour = null;
        int row = 0;
        int used = 0;
        for (int i = 0; i < rows.length(); i++) {
            Guest guest = planned.get(i);
            int its = rows.charAt(i) - '0';
            if (its == OUT) {
                spots.put(guest.number(), null);
                continue;
            }
            if (its < row) return null;
            if (its > row) {
                used = 0;
                neighbour = null;
                row = its;
            }
            if (neighbour != null && haveBar(neighbour.number(), guest.number())) used += free;
            spots.put(guest.number(), new Spot(row, used));
            used += guest.width();
            if (used > rowList.get(row).wide()) return null;
            neighbour = guest;
        }
        return spots;
    }

    /** The same for many guests: what is best behind a point depends on the row, its used places, and its last one. */
    private Tail bestTail(int i, int row, int used, int last, Map<List<Integer>, Tail> known) {
        if (i == planned.size()) return new Tail(0, 0, "");
        List<Integer> state = List.of(i, row, used, last);
        Tail best = known.get(state);
        if (best != null) return best;
        Guest guest = planned.get(i);
        for (int r = row; r < rowList.size(); r++) {
            boolean barred = r == row && last >= 0 && haveBar(last, guest.number());
            int place = r > row ? 0 : barred ? used + free : used;
            if (place + guest.width() > rowList.get(r).wide()) continue;
            Tail tail = bestTail(i + 1, r, place + guest.width(), guest.number(), known);
            best = better(best, longer(tail, guest, barred ? empty : 0, new Spot(r, place), r));
        }
        Tail without = bestTail(i + 1, row, used, last, known);
        best = better(best, longer(without, guest, guest.worth(), null, OUT));
        known.put(state, best);
        return best;
    }

    private Tail longer(Tail tail, Guest guest, int cost, Spot spot, int row) {
        int moves = countsMoves && isElsewhere(guest, spot) ? 1 : 0;
        return new Tail(tail.cost() + cost, tail.moves() + moves, row + tail.rows());
    }

    public int moved() {
        return movedThen;
    }

    private Spot spot(int guest) {
        return seating == null ? null : seating.get(guest);
    }

    public int sits(int guest, int what) {
        if (seating == null || !seating.containsKey(guest) || what < 0 || what > 2) return -2;
        Spot spot = spot(guest);
        if (spot == null) return -1;
        return what == 0 ? spot.row() : what == 1 ? spot.place() : spot.place() + guests.get(guest).width() - 1;
    }

    public int at(int row, int place) {
        for (Guest guest : guests) {
            Spot spot = spot(guest.number());
            if (spot == null || spot.row() != row) continue;
            for (int k = 0; k < guest.width(); k++) {
                if (spot.place() + k == place) return guest.number();
            }
        }
        return -1;
    }

    public int spare(int row) {
        if (seating == null || row < 0 || row >= rowsThen) return -1;
        int spare = 0;
        for (int place = 0; place < rowList.get(row).wide(); place++) {
            if (at(row, place) < 0) spare++;
        }
        return spare;
    }

    // Who sees: the line's height as a fraction, place by place, stage by stage.

    private boolean hides(Guest other, Guest guest, int stage) {
        Spot hers = spot(other.number());
        Spot spot = spot(guest.number());
        if (hers == null || spot == null || hers.row() >= spot.row()) return false;
        double middle = spot.place() + guest.width() / 2.0;
        boolean straight = false;
        for (int k = 0; k < other.width(); k++) {
            straight |= hers.place() + k <= middle && middle < hers.place() + k + 1;
        }
        Row near = rowList.get(hers.row());
        Row far = rowList.get(spot.row());
        BigInteger distance = BigInteger.valueOf(far.distance());
        BigInteger head = BigInteger.valueOf(near.floor() + other.eye() + 5).multiply(distance);
        BigInteger rise = BigInteger.valueOf(far.floor() + guest.eye() - stage)
            .multiply(BigInteger.valueOf(near.distance()));
        BigInteger line = BigInteger.valueOf(stage).multiply(distance).add(rise);
        return straight && head.compareTo(line) > 0;
    }

    private List<Integer> hiders(int guest, int stage) {
        List<Integer> hiders = new ArrayList<>();
        for (int row = 0; row < rowsThen; row++) {
            for (int place = 0; place < rowList.get(row).wide(); place++) {
                int other = at(row, place);
                if (other >= 0 && !hiders.contains(other)
                    && hides(guests.get(other), guests.get(guest), stage)) hiders.add(other);
            }
        }
        return hiders;
    }

    public int hidden(int guest) {
        return spot(guest) == null ? -1 : hiders(guest, stageNow).size();
    }

    public int hider(int guest, int k) {
        if (spot(guest) == null) return -1;
        List<Integer> hiders = hiders(guest, stageNow);
        return k >= 0 && k < hiders.size() ? hiders.get(k) : -1;
    }

    public int stage(int guest) {
        if (spot(guest) == null) return -1;
        for (int stage = 0; stage <= 300; stage++) {
            if (hiders(guest, stage).isEmpty()) return stage;
        }
        return -1;
    }

    public int morning(int gates, int shut) {
        if (gates < 1 || gates > 4 || shut < 0 || shut > 2000 || all(5) == 0) return -10000;
        List<Guest> coming = new ArrayList<>();
        for (Guest guest : guests) if (spot(guest.number()) != null) coming.add(guest);
        coming.sort(Comparator.comparingInt((Guest guest) -> -spot(guest.number()).row())
            .thenComparingInt(guest -> -spot(guest.number()).place()));
        int[] busy = new int[gates];
        carriages = new HashMap<>();
        int minute = 0;
        int end = 0;
        while (carriages.size() < coming.size()) {
            Guest guest = coming.get(carriages.size());
            int gate = 0;
            while (gate < gates && busy[gate] > 0) gate++;
            if (gate < gates) {
                carriages.put(guest.number(), new Carriage(minute, gate, carriages.size()));
                busy[gate] = guest.width();
                end = Math.max(end, minute + guest.width());
            } else {
                minute++;
                for (int k = 0; k < gates; k++) busy[k]--;
            }
        }
        return shut - end;
    }

    public int comes(int guest, int what) {
        Carriage carriage = carriages.get(guest);
        if (carriage == null) return -1;
        return what == 0 ? carriage.minute() : what == 1 ? carriage.gate() : what == 2 ? carriage.turn() : -1;
    }

    public int all(int what) {
        int sitting = 0;
        int seeing = 0;
        for (Guest guest : guests) {
            if (spot(guest.number()) == null) continue;
            sitting++;
            if (what == 6 && hidden(guest.number()) == 0) seeing++;
        }
        return switch (what) {
            case 0 -> guests.size();
            case 1 -> goneOnes.size();
            case 2 -> rowList.size();
            case 3 -> bars.size();
            case 4 -> order().size();
            case 5 -> sitting;
            case 6 -> seeing;
            default -> -1;
        };
    }
}
