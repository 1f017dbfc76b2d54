import java.util.ArrayList;
import java.util.List;
import java.util.Random;

/** Runs of calls, drawn from fixed seeds, on the class and on the model: each answer must be the same. */
public final class RandomRunsTest {
    private static final int CALLS = 512;
    private static final int SHORT_RUNS_PER_LONG = 10;
    private static final String[] WORDS = {
        "a", "b", "c", "d", "e", "f", "g", "h", "i", "by", "least", "most", "date", "age", "worth", "width", "eye",
        ",", ";", " ", "\n", "bye", "A", "7", "\t", "\r", "\u00ff", "\u0000"
    };
    private static final int[] EDGES = {
        Integer.MIN_VALUE, Integer.MAX_VALUE, -2, -1, 0, 1, 2, 3, 4, 5, 6, 7, 8, 19, 20, 29, 30, 31, 32, 33, 40, 41, 60,
        61, 80, 81, 120, 121, 200, 201, 300, 301, 1000, 1001, 2000, 2001, 9999, 10000
    };

    private final Random random;
    private final Office real = new RealOffice();
    private final Office model = new ModelOffice();
    private final List<String> calls = new ArrayList<>();
    private final int mostGuests;
    private final int narrow;
    /** Whether a guest is worth as much as they are wide, so that full rows cost the same, whoever sits there. */
    private final boolean tied;
    private int wrong;

    private RandomRunsTest(long seed, int mostGuests, int narrow, boolean tied) {
        random = new Random(seed);
        this.mostGuests = mostGuests;
        this.narrow = narrow;
        this.tied = tied;
    }

    public static void main(String[] args) {
        int runs = args.length > 0 ? Integer.parseInt(args[0]) : 200;
        int failed = 0;
        for (int seed = 0; seed < runs; seed++) {
            // Few guests are seated by trying all seatings; narrow rows and few worths make many of the same cost.
            RandomRunsTest run = seed % 3 == 0 ? new RandomRunsTest(seed, 5, 6, false)
                : seed % 3 == 1 ? new RandomRunsTest(seed, 12, 10, false) : new RandomRunsTest(seed, 40, 40, false);
            run.runLong();
            if (!run.passes(seed)) {
                failed++;
            }
        }
        int shortRuns = SHORT_RUNS_PER_LONG * runs;
        for (int seed = 0; seed < shortRuns; seed++) {
            RandomRunsTest run = new RandomRunsTest(seed, seed % 2 == 0 ? 5 : 9, 8, true);
            run.runShort();
            if (!run.passes(seed)) {
                failed++;
            }
        }
        System.out.println((runs + shortRuns - failed) + " runs are as the model has them, " + failed + " are not");
        if (failed != 0) {
            System.exit(1);
        }
    }

    private void runLong() {
        begin();
        while (calls.size() < CALLS && wrong == 0) {
            step();
        }
    }

    /** A long run has one first seating alone; here there are many, and most could be had in several ways. */
    private void runShort() {
        for (int i = between(2, mostGuests); i > 0; i--) {
            guest();
        }
        for (int i = between(1, 2); i > 0; i--) {
            row();
        }
        readText(random.nextBoolean() ? "a,b,c,d,e,f,g,h;" : text());
        for (int i = between(0, 2); i > 0; i--) {
            bar();
        }
        for (int i = between(1, 4); i > 0 && wrong == 0; i--) {
            seat();
            gone();
        }
    }

    private boolean passes(long seed) {
        if (wrong != 0) {
            System.out.println("seed " + seed + ": ");
            for (String call : calls) {
                System.out.println("  " + call);
            }
        }
        return wrong == 0;
    }

    private void note(String call, int got, int want) {
        calls.add(call + " answered " + got + (got == want ? "" : ", due is " + want));
        if (got != want) {
            wrong++;
        }
    }

    private void note(String call, boolean got, boolean want) {
        note(call, got ? 1 : 0, want ? 1 : 0);
    }

    private int between(int least, int most) {
        return least + random.nextInt(most - least + 1);
    }

    /** A number in the range, or now and then one that may be outside it. */
    private int number(int least, int most) {
        return random.nextInt(40) == 0 ? EDGES[random.nextInt(EDGES.length)] : between(least, most);
    }

    private int someGuest() {
        return number(0, Math.max(0, Math.min(31, model.all(0))));
    }

    private void begin() {
        if (random.nextInt(4) == 0) {
            return;
        }
        for (int i = between(0, Math.min(mostGuests, 34)); i > 0; i--) {
            guest();
        }
        for (int i = between(0, 5); i > 0; i--) {
            row();
        }
        readText(text());
        for (int i = between(0, 10); i > 0; i--) {
            bar();
        }
    }

    private void step() {
        int kind = random.nextInt(100);
        if (kind < 4) {
            guest();
        } else if (kind < 7) {
            row();
        } else if (kind < 12) {
            gone();
        } else if (kind < 18) {
            bar();
        } else if (kind < 23) {
            readText(random.nextInt(3) == 0 ? spoilt(text()) : text());
        } else if (kind < 25) {
            feed();
        } else if (kind < 28) {
            int stage = number(0, 300);
            int free = number(1, 4);
            int empty = random.nextBoolean() ? number(0, 6) : number(0, 1000);
            note("set(" + stage + ", " + free + ", " + empty + ")", real.set(stage, free, empty),
                model.set(stage, free, empty));
        } else if (kind < 34) {
            seat();
        } else if (kind < 38) {
            int gates = number(1, 4);
            int shut = number(0, 300);
            note("morning(" + gates + ", " + shut + ")", real.morning(gates, shut), model.morning(gates, shut));
        } else {
            ask(random.nextInt(14));
        }
    }

    private void ask(int which) {
        int guest = someGuest();
        int what = number(-1, 3);
        switch (which) {
            case 0 -> note("fault(" + what + ")", real.fault(what), model.fault(what));
            case 1 -> note("rank(" + guest + ")", real.rank(guest), model.rank(guest));
            case 2 -> note("ranked(" + guest + ")", real.ranked(guest), model.ranked(guest));
            case 3 -> note("moved()", real.moved(), model.moved());
            case 4, 5 -> note("sits(" + guest + ", " + what + ")", real.sits(guest, what), model.sits(guest, what));
            case 6 -> {
                int row = number(0, 5);
                int place = number(0, 39);
                note("at(" + row + ", " + place + ")", real.at(row, place), model.at(row, place));
            }
            case 7 -> note("spare(" + what + ")", real.spare(what), model.spare(what));
            case 8 -> note("hidden(" + guest + ")", real.hidden(guest), model.hidden(guest));
            case 9 -> note("hider(" + guest + ", " + what + ")", real.hider(guest, what), model.hider(guest, what));
            case 10 -> note("stage(" + guest + ")", real.stage(guest), model.stage(guest));
            case 11, 12 -> note("comes(" + guest + ", " + what + ")", real.comes(guest, what), model.comes(guest, what));
            default -> {
                int all = number(-1, 7);
                note("all(" + all + ")", real.all(all), model.all(all));
            }
        }
    }

    /** Not counted as calls of the run, so that a run has many seatings: none of them changes anything. */
    private void lookAtAll() {
        for (int guest = 0; guest < 32; guest++) {
            if (real.sits(guest, 0) != model.sits(guest, 0) || real.sits(guest, 1) != model.sits(guest, 1)
                || real.hidden(guest) != model.hidden(guest) || real.hider(guest, 0) != model.hider(guest, 0)) {
                note("sits(" + guest + ", 0)", real.sits(guest, 0), model.sits(guest, 0));
                note("sits(" + guest + ", 1)", real.sits(guest, 1), model.sits(guest, 1));
                note("hidden(" + guest + ")", real.hidden(guest), model.hidden(guest));
                note("hider(" + guest + ", 0)", real.hider(guest, 0), model.hider(guest, 0));
            }
        }
    }

    private void guest() {
        if (model.all(0) >= mostGuests) {
            return;
        }
        int kind = number(0, 7);
        int date = random.nextBoolean() ? number(0, 3) : number(0, 9999);
        int age = random.nextBoolean() ? number(20, 22) : number(0, 120);
        int width = number(1, narrow < 10 ? 3 : 6);
        int eye = number(30, 80);
        int worth = tied ? width : random.nextBoolean() ? number(1, 6) : number(1, 1000);
        note("guest(" + kind + ", " + date + ", " + age + ", " + width + ", " + eye + ", " + worth + ")",
            real.guest(kind, date, age, width, eye, worth), model.guest(kind, date, age, width, eye, worth));
    }

    private void row() {
        int wide = number(4, narrow);
        int floor = number(0, random.nextBoolean() ? 40 : 300);
        int deep = number(20, 60);
        note("row(" + wide + ", " + floor + ", " + deep + ")", real.row(wide, floor, deep), model.row(wide, floor, deep));
    }

    private void gone() {
        int guest = someGuest();
        boolean gone = random.nextInt(5) < 3;
        note("gone(" + guest + ", " + gone + ")", real.gone(guest, gone), model.gone(guest, gone));
    }

    private void seat() {
        boolean anew = random.nextInt(3) > 0;
        note("seat(" + anew + ")", real.seat(anew), model.seat(anew));
        note("moved()", real.moved(), model.moved());
        lookAtAll();
    }

    private void bar() {
        int a = someGuest();
        int b = random.nextBoolean() ? someGuest() : a + 1;
        boolean bar = random.nextInt(4) > 0;
        note("bar(" + a + ", " + b + ", " + bar + ")", real.bar(a, b, bar), model.bar(a, b, bar));
    }

    // Texts of rules.

    private String blank(boolean needed) {
        String some = needed ? " " : "";
        while (random.nextInt(3) == 0) {
            some += random.nextBoolean() ? " " : "\n";
        }
        return some;
    }

    private String text() {
        StringBuilder text = new StringBuilder(blank(false));
        String letters = "abcdefgh";
        boolean all = random.nextBoolean();
        while (!letters.isEmpty() && (all || random.nextInt(5) > 0)) {
            boolean first = true;
            while (first || !letters.isEmpty() && random.nextInt(3) > 0) {
                int i = random.nextInt(letters.length());
                text.append(first ? "" : ",").append(blank(false)).append(letters.charAt(i)).append(blank(false));
                letters = letters.substring(0, i) + letters.substring(i + 1);
                first = false;
            }
            if (random.nextInt(3) > 0) {
                text.append(" by ").append(key());
                while (random.nextInt(3) == 0) {
                    text.append(",").append(blank(false)).append(key());
                }
            }
            text.append(";").append(blank(false));
        }
        return text.toString();
    }

    private String key() {
        String[] fields = {"date", "age", "worth", "width", "eye"};
        return (random.nextBoolean() ? "least" : "most") + blank(true) + fields[random.nextInt(5)] + blank(false);
    }

    private String spoilt(String text) {
        int from = random.nextInt(text.length() + 1);
        int to = Math.min(text.length(), from + random.nextInt(3));
        String put = random.nextInt(3) == 0 ? "" : WORDS[random.nextInt(WORDS.length)];
        return random.nextInt(4) == 0 ? text.substring(0, from) : text.substring(0, from) + put + text.substring(to);
    }

    private void readText(String text) {
        String fits = text.length() > 200 ? text.substring(0, 200) : text;
        note("end(0)", real.end(0), model.end(0));
        for (int i = 0; i < fits.length(); i += 20) {
            int[] five = new int[5];
            for (int k = 0; k < 20; k++) {
                int b = i + k < fits.length() ? fits.charAt(i + k) : random.nextInt(256);
                five[k / 4] = five[k / 4] << 8 | b;
            }
            feed(five);
        }
        note("end(" + fits.length() + ")", real.end(fits.length()), model.end(fits.length()));
        note("rules()", real.rules(), model.rules());
        note("fault(0)", real.fault(0), model.fault(0));
        note("fault(1)", real.fault(1), model.fault(1));
    }

    private void feed() {
        if (random.nextBoolean()) {
            int n = number(0, 200);
            note("end(" + n + ")", real.end(n), model.end(n));
        }
        for (int i = random.nextInt(13); i > 0; i--) {
            feed(random.nextInt(), random.nextInt(), random.nextInt(), random.nextInt(), random.nextInt());
        }
    }

    private void feed(int... five) {
        note("feed(" + five[0] + ", " + five[1] + ", " + five[2] + ", " + five[3] + ", " + five[4] + ")",
            real.feed(five[0], five[1], five[2], five[3], five[4]),
            model.feed(five[0], five[1], five[2], five[3], five[4]));
    }
}
