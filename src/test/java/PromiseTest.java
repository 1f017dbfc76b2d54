/** Each promise of the document by itself: ordinary inputs, the edges that it names, and wrong inputs. */
public final class PromiseTest extends OfficeCalls {
    private static int promise;
    private static int wrong;
    private static int right;

    public static void main(String[] args) {
        aNewObject();
        feed();
        end();
        guest();
        gone();
        bar();
        row();
        set();
        rules();
        fault();
        faultOfWords();
        rank();
        rankByKeys();
        ranked();
        seat();
        seatWithBars();
        seatFirstOfSeveral();
        seatAnew();
        moved();
        sits();
        at();
        spare();
        hidden();
        hiddenByTheMiddle();
        hider();
        stage();
        morning();
        comes();
        all();
        aFullHouse();
        System.out.println(right + " answers as due, " + wrong + " not");
        if (wrong != 0) {
            System.exit(1);
        }
    }

    private static void due(String what, int got, int want) {
        if (got == want) {
            right++;
        } else {
            wrong++;
            System.out.println("promise " + promise + ": " + what + " answered " + got + ", due is " + want);
        }
    }

    private static void due(String what, boolean got, boolean want) {
        due(what, got ? 1 : 0, want ? 1 : 0);
    }

    /** An office in which all kinds are one line, in the order of their numbers. */
    private static CrowningSeats office() {
        CrowningSeats office = new CrowningSeats();
        read(office, ALL_KINDS);
        return office;
    }

    private static void dueSpot(CrowningSeats office, int guest, int row, int place) {
        due("sits(" + guest + ", 0)", office.sits(guest, 0), row);
        due("sits(" + guest + ", 1)", office.sits(guest, 1), place);
    }

    private static void aNewObject() {
        promise = 1;
        CrowningSeats office = new CrowningSeats();
        due("NONE", CrowningSeats.NONE, -1);
        for (int what = 0; what <= 6; what++) {
            due("all(" + what + ")", office.all(what), 0);
        }
        due("fault(0)", office.fault(0), 0);
        due("fault(1)", office.fault(1), NONE);
        due("moved()", office.moved(), NONE);
        due("sits(0, 0)", office.sits(0, 0), -2);
        due("at(0, 0)", office.at(0, 0), NONE);
        due("spare(0)", office.spare(0), NONE);
        due("hidden(0)", office.hidden(0), NONE);
        due("hider(0, 0)", office.hider(0, 0), NONE);
        due("stage(0)", office.stage(0), NONE);
        due("morning(1, 10)", office.morning(1, 10), -10000);
        due("comes(0, 0)", office.comes(0, 0), NONE);
        due("a guest without rules", office.guest(0, 0, 0, 1, 30, 1), 0);
        due("rank(0) without rules", office.rank(0), NONE);
        due("all(4) without rules", office.all(4), 0);
    }

    private static void feed() {
        promise = 2;
        CrowningSeats office = new CrowningSeats();
        for (int i = 1; i <= 10; i++) {
            due("feed", office.feed(0x20202020, LOW, HIGH, -1, 0), 20 * i);
        }
        due("feed beyond 200", office.feed(0, 0, 0, 0, 0), NONE);
        due("nothing was done", office.end(200), true);
        office.end(181);
        due("feed to 201", office.feed(0, 0, 0, 0, 0), NONE);
        office.end(180);
        due("feed to 200", office.feed(0, 0, 0, 0, 0), 200);
        // "a;b;" has its bytes highest first, and the next number comes behind it.
        office.end(0);
        office.feed(0x613b623b, 0x633b643b, 0x653b663b, 0x673b683b, 0x20200a20);
        due("rules()", office.rules(), 8);
        office.feed(0x613b623b, 0x633b643b, 0x653b663b, 0x673b683b, 0x2020ff20);
        due("a byte above 127", office.rules(), NONE);
        due("its place", office.fault(1), 18);
    }

    private static void end() {
        promise = 3;
        CrowningSeats office = new CrowningSeats();
        due("end(0) of nothing", office.end(0), true);
        due("end(1) of nothing", office.end(1), false);
        office.feed(0, 0, 0, 0, 0);
        due("end(-1)", office.end(-1), false);
        due("end(21)", office.end(21), false);
        due("end(lowest)", office.end(LOW), false);
        due("end(highest)", office.end(HIGH), false);
        due("end(20)", office.end(20), true);
        due("end(7)", office.end(7), true);
        due("end(8)", office.end(8), false);
        due("feed behind 7", office.feed(0, 0, 0, 0, 0), 27);
    }

    private static void guest() {
        promise = 4;
        CrowningSeats office = new CrowningSeats();
        due("kind -1", office.guest(-1, 0, 0, 1, 30, 1), NONE);
        due("kind 8", office.guest(8, 0, 0, 1, 30, 1), NONE);
        due("date -1", office.guest(0, -1, 0, 1, 30, 1), NONE);
        due("date 10000", office.guest(0, 10000, 0, 1, 30, 1), NONE);
        due("age -1", office.guest(0, 0, -1, 1, 30, 1), NONE);
        due("age 121", office.guest(0, 0, 121, 1, 30, 1), NONE);
        due("width 0", office.guest(0, 0, 0, 0, 30, 1), NONE);
        due("width 7", office.guest(0, 0, 0, 7, 30, 1), NONE);
        due("eye 29", office.guest(0, 0, 0, 1, 29, 1), NONE);
        due("eye 81", office.guest(0, 0, 0, 1, 81, 1), NONE);
        due("worth 0", office.guest(0, 0, 0, 1, 30, 0), NONE);
        due("worth 1001", office.guest(0, 0, 0, 1, 30, 1001), NONE);
        due("none of them came", office.all(0), 0);
        due("the least of all", office.guest(0, 0, 0, 1, 30, 1), 0);
        due("the most of all", office.guest(7, 9999, 120, 6, 80, 1000), 1);
        for (int i = 2; i < 32; i++) {
            due("guest " + i, office.guest(3, i, i, 2, 50, 10), i);
        }
        due("a guest too many", office.guest(3, 3, 3, 2, 50, 10), NONE);
        due("all(0)", office.all(0), 32);
    }

    private static void gone() {
        promise = 5;
        CrowningSeats office = office();
        due("nobody", office.gone(0, true), false);
        join(office, 1, 1);
        join(office, 1, 1);
        due("gone(-1)", office.gone(-1, true), false);
        due("gone(2)", office.gone(2, true), false);
        due("gone(lowest)", office.gone(LOW, true), false);
        due("gone(highest)", office.gone(HIGH, false), false);
        due("here already", office.gone(0, false), false);
        due("gone(0)", office.gone(0, true), true);
        due("gone already", office.gone(0, true), false);
        due("out of the order", office.rank(0), NONE);
        due("the other one goes up", office.rank(1), 0);
        due("comes after all", office.gone(0, false), true);
        due("in the order anew", office.rank(0), 0);
        due("the other one goes down", office.rank(1), 1);
    }

    private static void bar() {
        promise = 6;
        CrowningSeats office = office();
        join(office, 1, 1);
        due("only one", office.bar(0, 1, true), false);
        for (int i = 1; i < 32; i++) {
            join(office, 1, 1);
        }
        due("with oneself", office.bar(0, 0, true), false);
        due("with oneself, off", office.bar(0, 0, false), false);
        due("bar(-1, 0)", office.bar(-1, 0, true), false);
        due("bar(0, 32)", office.bar(0, 32, true), false);
        due("bar(lowest, highest)", office.bar(LOW, HIGH, true), false);
        due("none there", office.bar(0, 31, false), false);
        due("bar(0, 31)", office.bar(0, 31, true), true);
        due("there already", office.bar(0, 31, true), false);
        due("the other way round", office.bar(31, 0, true), false);
        due("another pair", office.bar(30, 31, true), true);
        due("all(3)", office.all(3), 2);
        due("off, the other way round", office.bar(31, 0, false), true);
        due("off already", office.bar(0, 31, false), false);
        due("all(3)", office.all(3), 1);
    }

    private static void row() {
        promise = 7;
        CrowningSeats office = new CrowningSeats();
        due("wide 3", office.row(3, 0, 20), NONE);
        due("wide 41", office.row(41, 0, 20), NONE);
        due("floor -1", office.row(4, -1, 20), NONE);
        due("floor 301", office.row(4, 301, 20), NONE);
        due("deep 19", office.row(4, 0, 19), NONE);
        due("deep 61", office.row(4, 0, 61), NONE);
        due("lowest", office.row(LOW, LOW, LOW), NONE);
        due("highest", office.row(HIGH, HIGH, HIGH), NONE);
        due("none of them came", office.all(2), 0);
        due("the least of all", office.row(4, 0, 20), 1);
        due("the most of all", office.row(40, 300, 60), 2);
        for (int i = 3; i <= 6; i++) {
            due("row " + i, office.row(10, 0, 30), i);
        }
        due("a row too many", office.row(10, 0, 30), NONE);
        office.seat(false);
        due("spare(0)", office.spare(0), 4);
        due("spare(1)", office.spare(1), 40);
        due("spare(5)", office.spare(5), 10);
    }

    private static void set() {
        promise = 8;
        CrowningSeats office = office();
        due("stage -1", office.set(-1, 1, 0), false);
        due("stage 301", office.set(301, 1, 0), false);
        due("free 0", office.set(0, 0, 0), false);
        due("free 5", office.set(0, 5, 0), false);
        due("empty -1", office.set(0, 1, -1), false);
        due("empty 1001", office.set(0, 1, 1001), false);
        join(office, 1, 1000);
        join(office, 1, 1000);
        office.bar(0, 1, true);
        office.row(10, 0, 20);
        due("refused ones changed nothing: EMPTY is 5", office.seat(false), 5);
        due("FREE is 1", office.sits(1, 1), 2);
        due("the least", office.set(0, 1, 0), true);
        due("EMPTY is 0", office.seat(false), 0);
        due("the most", office.set(300, 4, 1000), true);
        due("EMPTY is 1000", office.seat(false), 1000);
        due("FREE is 4", office.set(300, 4, 999), true);
        office.seat(false);
        due("four are empty", office.sits(1, 1), 5);
        stageAtFirst();
    }

    private static void stageAtFirst() {
        CrowningSeats office = office();
        joinWithEye(office, 4, 55);
        joinWithEye(office, 4, 60);
        office.row(4, 0, 20);
        office.row(4, 0, 20);
        office.seat(false);
        due("head and line at 60", office.hidden(1), 0);
        office.set(59, 1, 5);
        due("the line a little lower", office.hidden(1), 1);
        CrowningSeats other = office();
        joinWithEye(other, 4, 56);
        joinWithEye(other, 4, 61);
        other.row(4, 0, 20);
        other.row(4, 0, 20);
        other.seat(false);
        due("head at 61, line at 60 and a half", other.hidden(1), 1);
        other.set(61, 1, 5);
        due("the line at 61", other.hidden(1), 0);
    }

    private static void rules() {
        promise = 9;
        CrowningSeats office = new CrowningSeats();
        due("nothing", office.rules(), 0);
        due("a line", read(office, "a;"), 1);
        due("the tape is gone", office.end(1), false);
        due("blanks alone", read(office, " \n \n"), 0);
        due("eight lines", read(office, "h;g;f;e;d;c;b;a;"), 8);
        due("one line of eight", read(office, "h,g,f,e,d,c,b,a;"), 1);
        due("all keys", read(office, "a by least date,most age,least worth,most width,least eye;"), 1);
        due("blanks all over", read(office, "\n a , b\n\nby  least\ndate , most\n \nage ; c ; "), 2);
        due("no blanks where none need be", read(office, "a,b by least date,most age;c;d by most eye;"), 3);
        due("the same key twice", read(office, "a by least age,most age,least age;"), 1);
        String keys = "a by most age" + ",most age".repeat(20) + ";";
        due("as many keys as can be", read(office, keys + " ".repeat(200 - keys.length())), 1);
        office.guest(0, 0, 5, 1, 30, 1);
        office.guest(1, 0, 5, 1, 30, 1);
        read(office, "b;a;");
        due("b is ahead", office.rank(1), 0);
        due("a fault", read(office, "a;b"), NONE);
        due("the tape is gone with a fault too", office.end(1), false);
        due("the rules before stay", office.rank(1), 0);
        due("and all who are in them", office.all(4), 2);
        due("an empty text is no fault", office.rules(), 0);
        due("and nobody is in it", office.all(4), 0);
    }

    private static void dueFault(String text, int kind, int place) {
        CrowningSeats office = new CrowningSeats();
        due("rules of '" + text + "'", read(office, text) == NONE, kind != 0);
        due("fault(0) of '" + text + "'", office.fault(0), kind);
        due("fault(1) of '" + text + "'", office.fault(1), place);
    }

    private static void fault() {
        promise = 10;
        dueFault("a;", 0, NONE);
        dueFault("a", 1, 1);
        dueFault("a  \n", 1, 4);
        dueFault("a,", 1, 2);
        dueFault("a by", 1, 4);
        dueFault("a by least", 1, 10);
        dueFault("a by least date", 1, 15);
        dueFault("a by least date,", 1, 16);
        dueFault(";", 1, 0);
        dueFault("a;;", 1, 2);
        dueFault("a,;", 1, 2);
        dueFault("a,,b;", 1, 2);
        dueFault("a b;", 1, 2);
        dueFault("a a;", 1, 2);
        dueFault("a by date;", 1, 5);
        dueFault("a by least;", 1, 10);
        dueFault("a by least least;", 1, 11);
        dueFault("a by least date age;", 1, 16);
        dueFault("a by least date, age;", 1, 17);
        dueFault("a by least date,b;", 1, 16);
        dueFault("a,by least date;", 1, 2);
        dueFault("by least date;", 1, 0);
        dueFault("i;", 1, 0);
        dueFault("a\t;", 1, 1);
        dueFault("a\r;", 1, 1);
        dueFault("a,a;", 2, 2);
        dueFault("a;b;c,a;", 2, 6);
        dueFault("a;  a", 2, 4);
        dueFault("a,a;;", 2, 2);
        dueFault("a;;a;", 1, 2);
        CrowningSeats office = new CrowningSeats();
        read(office, "a,a;");
        due("fault(2)", office.fault(2), NONE);
        due("fault(-1)", office.fault(-1), NONE);
        due("fault(highest)", office.fault(HIGH), NONE);
        read(office, "a;");
        due("the latest one has none", office.fault(0), 0);
        due("nor a place", office.fault(1), NONE);
        String full = "a;" + " ".repeat(197) + "b";
        dueFault(full, 1, 200);
    }

    private static void faultOfWords() {
        dueFault("ab;", 1, 0);
        dueFault("a bye least date;", 1, 2);
        dueFault("a b", 1, 2);
        dueFault("a byleast date;", 1, 2);
        dueFault("a by leas", 1, 5);
        dueFault("a by leastdate;", 1, 5);
        dueFault("a by least dates;", 1, 11);
        dueFault("a by least dat;", 1, 11);
        dueFault("a by most worht;", 1, 10);
        dueFault("a by most worth width;", 1, 16);
        dueFault("aby least date;", 1, 0);
        dueFault("A;", 1, 0);
        dueFault("a1;", 1, 1);
    }

    private static void rank() {
        promise = 11;
        CrowningSeats office = new CrowningSeats();
        read(office, "c,a;b;");
        for (int kind : new int[] {1, 0, 2, 3, 0}) {
            office.guest(kind, 0, 0, 1, 30, 1);
        }
        due("kind b is last", office.rank(0), 3);
        due("one line, by number", office.rank(1), 0);
        due("one line, by number", office.rank(2), 1);
        due("a kind that is not in the text", office.rank(3), NONE);
        due("one line, by number", office.rank(4), 2);
        due("rank(-1)", office.rank(-1), NONE);
        due("rank(5)", office.rank(5), NONE);
        due("rank(lowest)", office.rank(LOW), NONE);
        due("rank(highest)", office.rank(HIGH), NONE);
        office.gone(1, true);
        due("who is gone has none", office.rank(1), NONE);
        due("the next one", office.rank(2), 0);
        read(office, "d;");
        due("new rules at once", office.rank(3), 0);
        due("new rules at once", office.rank(0), NONE);
    }

    private static void dueOrder(CrowningSeats office, String text, int... guests) {
        read(office, text);
        for (int i = 0; i < guests.length; i++) {
            due("rank(" + guests[i] + ") by '" + text + "'", office.rank(guests[i]), i);
            due("ranked(" + i + ") by '" + text + "'", office.ranked(i), guests[i]);
        }
    }

    private static void rankByKeys() {
        CrowningSeats office = new CrowningSeats();
        office.guest(0, 20, 30, 3, 50, 7);
        office.guest(1, 10, 40, 2, 60, 7);
        office.guest(0, 30, 20, 1, 40, 9);
        office.guest(1, 10, 40, 4, 30, 8);
        dueOrder(office, "a,b by least date;", 1, 3, 0, 2);
        dueOrder(office, "a,b by most date;", 2, 0, 1, 3);
        dueOrder(office, "a,b by least age;", 2, 0, 1, 3);
        dueOrder(office, "a,b by most age;", 1, 3, 0, 2);
        dueOrder(office, "a,b by least worth;", 0, 1, 3, 2);
        dueOrder(office, "a,b by most worth;", 2, 3, 0, 1);
        dueOrder(office, "a,b by least width;", 2, 1, 0, 3);
        dueOrder(office, "a,b by most width;", 3, 0, 1, 2);
        dueOrder(office, "a,b by least eye;", 3, 2, 0, 1);
        dueOrder(office, "a,b by most eye;", 1, 0, 2, 3);
        dueOrder(office, "a,b by least date,most worth;", 3, 1, 0, 2);
        dueOrder(office, "a,b by most age,least date,least eye;", 3, 1, 0, 2);
        dueOrder(office, "b by most width;a by least age;", 3, 1, 2, 0);
        dueOrder(office, "b;a by least age;", 1, 3, 2, 0);
        dueOrder(office, "a by most age;b;", 0, 2, 1, 3);
    }

    private static void ranked() {
        promise = 12;
        CrowningSeats office = office();
        due("of nobody", office.ranked(0), NONE);
        join(office, 1, 1);
        join(office, 1, 1);
        due("ranked(0)", office.ranked(0), 0);
        due("ranked(1)", office.ranked(1), 1);
        due("ranked(2)", office.ranked(2), NONE);
        due("ranked(-1)", office.ranked(-1), NONE);
        due("ranked(lowest)", office.ranked(LOW), NONE);
        due("ranked(highest)", office.ranked(HIGH), NONE);
        office.gone(0, true);
        due("without who is gone", office.ranked(0), 1);
        due("and one less", office.ranked(1), NONE);
    }

    private static void seat() {
        promise = 13;
        CrowningSeats office = office();
        due("nobody, no rows", office.seat(false), 0);
        join(office, 4, 3);
        join(office, 4, 9);
        due("no rows: all are left out", office.seat(false), 12);
        dueSpot(office, 0, NONE, NONE);
        office.row(4, 0, 20);
        due("one row: the dearer one sits", office.seat(false), 3);
        dueSpot(office, 0, NONE, NONE);
        dueSpot(office, 1, 0, 0);
        office.row(4, 0, 20);
        due("two rows: both sit", office.seat(false), 0);
        dueSpot(office, 0, 0, 0);
        dueSpot(office, 1, 1, 0);
        lesserRowsAreShut();
        fullRows();
    }

    private static void lesserRowsAreShut() {
        CrowningSeats office = office();
        join(office, 6, 3);
        join(office, 4, 9);
        office.row(4, 0, 20);
        office.row(6, 0, 20);
        due("nobody sits in a lesser row than one ahead", office.seat(false), 3);
        dueSpot(office, 0, NONE, NONE);
        dueSpot(office, 1, 0, 0);
    }

    private static void fullRows() {
        CrowningSeats office = office();
        for (int i = 0; i < 32; i++) {
            join(office, 6, 1000);
        }
        for (int i = 0; i < 6; i++) {
            office.row(40, 0, 20);
        }
        due("six in each row, all sit", office.seat(false), 0);
        dueSpot(office, 31, 5, 6);
        dueSpot(office, 29, 4, 30);
        due("all(5)", office.all(5), 32);
    }

    private static void seatWithBars() {
        CrowningSeats office = office();
        for (int i = 0; i < 3; i++) {
            join(office, 1, 100);
        }
        office.row(6, 0, 20);
        office.bar(0, 2, true);
        due("a bar, but not side by side", office.seat(false), 0);
        dueSpot(office, 2, 0, 2);
        office.gone(1, true);
        due("side by side", office.seat(false), 5);
        dueSpot(office, 2, 0, 2);
        office.set(60, 4, 7);
        due("the row just wide enough", office.seat(false), 7);
        dueSpot(office, 2, 0, 5);
        office.gone(1, false);
        office.bar(0, 1, true);
        due("the row too narrow", office.seat(false), 100);
        dueSpot(office, 0, NONE, NONE);
        dueSpot(office, 1, 0, 0);
        dueSpot(office, 2, 0, 1);
        office.row(4, 0, 20);
        due("another row parts them at no cost", office.seat(false), 0);
        dueSpot(office, 0, 0, 0);
        dueSpot(office, 1, 1, 0);
        dueSpot(office, 2, 1, 1);
        emptyDearerThanWorth();
    }

    private static void emptyDearerThanWorth() {
        CrowningSeats office = office();
        join(office, 1, 10);
        join(office, 1, 20);
        office.bar(0, 1, true);
        office.row(4, 0, 20);
        office.set(60, 1, 11);
        due("dearer than to leave one out", office.seat(false), 10);
        dueSpot(office, 0, NONE, NONE);
        office.set(60, 1, 10);
        due("as dear: the first one sits", office.seat(false), 10);
        dueSpot(office, 0, 0, 0);
        dueSpot(office, 1, 0, 2);
    }

    private static void seatFirstOfSeveral() {
        CrowningSeats office = office();
        join(office, 2, 5);
        join(office, 2, 5);
        join(office, 4, 10);
        office.row(4, 0, 20);
        due("two or one", office.seat(false), 10);
        dueSpot(office, 0, 0, 0);
        dueSpot(office, 1, 0, 2);
        dueSpot(office, 2, NONE, NONE);
        leftOutComesLast();
    }

    private static void leftOutComesLast() {
        CrowningSeats office = office();
        join(office, 3, 7);
        join(office, 3, 7);
        for (int i = 0; i < 5; i++) {
            office.row(4, 0, 20);
        }
        due("room for all", office.seat(false), 0);
        dueSpot(office, 0, 0, 0);
        dueSpot(office, 1, 1, 0);
        CrowningSeats narrow = office();
        join(narrow, 5, 7);
        join(narrow, 5, 7);
        for (int wide : new int[] {4, 4, 4, 4, 4, 5}) {
            narrow.row(wide, 0, 20);
        }
        due("the last row alone", narrow.seat(false), 7);
        dueSpot(narrow, 0, 5, 0);
        dueSpot(narrow, 1, NONE, NONE);
    }

    private static void seatAnew() {
        CrowningSeats office = office();
        join(office, 2, 5);
        join(office, 2, 5);
        join(office, 4, 10);
        office.row(4, 0, 20);
        office.gone(0, true);
        due("the third one alone", office.seat(false), 5);
        dueSpot(office, 2, 0, 0);
        office.gone(0, false);
        due("anew: nobody need move", office.seat(true), 10);
        dueSpot(office, 2, 0, 0);
        dueSpot(office, 0, NONE, NONE);
        due("moved()", office.moved(), 0);
        due("not anew: the first", office.seat(false), 10);
        dueSpot(office, 0, 0, 0);
        due("and anew these stay", office.seat(true), 10);
        dueSpot(office, 0, 0, 0);
        due("moved()", office.moved(), 0);
        costAheadOfMoves();
        anewInALaterRow();
        anewWithoutOneAhead();
        anewBehindOneWithNobodyInIt();
    }

    private static void anewWithoutOneAhead() {
        CrowningSeats office = office();
        join(office, 2, 5);
        join(office, 2, 5);
        join(office, 4, 10);
        office.row(4, 0, 20);
        due("anew, none ahead: one comes in rather than two", office.seat(true), 10);
        dueSpot(office, 0, NONE, NONE);
        dueSpot(office, 1, NONE, NONE);
        dueSpot(office, 2, 0, 0);
        due("moved()", office.moved(), 1);
        CrowningSeats alike = office();
        join(alike, 2, 5);
        join(alike, 2, 5);
        alike.row(4, 0, 20);
        alike.row(4, 0, 20);
        due("anew, none ahead, as many come in either way: the first", alike.seat(true), 0);
        dueSpot(alike, 0, 0, 0);
        dueSpot(alike, 1, 0, 2);
        CrowningSeats cheap = office();
        join(cheap, 2, 5);
        join(cheap, 2, 6);
        join(cheap, 4, 10);
        cheap.row(4, 0, 20);
        due("anew, none ahead: the least cost, though two come in", cheap.seat(true), 10);
        dueSpot(cheap, 0, 0, 0);
        dueSpot(cheap, 2, NONE, NONE);
        due("moved()", cheap.moved(), 2);
    }

    private static void anewBehindOneWithNobodyInIt() {
        CrowningSeats office = office();
        office.row(4, 0, 20);
        due("a seating of nobody", office.seat(false), 0);
        join(office, 2, 5);
        join(office, 2, 5);
        join(office, 4, 10);
        due("anew: who was not in it counts as left out", office.seat(true), 10);
        dueSpot(office, 0, NONE, NONE);
        dueSpot(office, 2, 0, 0);
        due("moved()", office.moved(), 1);
    }

    private static void costAheadOfMoves() {
        CrowningSeats office = office();
        office.row(4, 0, 20);
        join(office, 1, 5);
        join(office, 3, 5);
        office.seat(false);
        office.gone(0, true);
        office.guest(0, 0, 0, 1, 40, 1);
        due("the least cost, though one moves", office.seat(true), 0);
        dueSpot(office, 1, 0, 0);
        dueSpot(office, 2, 0, 3);
        due("moved(): the one who shifts and the new one", office.moved(), 2);
    }

    private static void anewInALaterRow() {
        CrowningSeats office = office();
        join(office, 4, 5);
        join(office, 3, 5);
        office.row(4, 0, 20);
        office.row(4, 0, 20);
        office.seat(false);
        dueSpot(office, 1, 1, 0);
        office.gone(0, true);
        due("stays in the second row", office.seat(true), 0);
        dueSpot(office, 1, 1, 0);
        due("moved()", office.moved(), 0);
        office.seat(false);
        dueSpot(office, 1, 0, 0);
    }

    private static void moved() {
        promise = 14;
        CrowningSeats office = office();
        due("without a seating", office.moved(), NONE);
        join(office, 2, 5);
        join(office, 2, 5);
        join(office, 2, 1);
        office.row(4, 0, 20);
        due("still without one", office.moved(), NONE);
        office.seat(false);
        due("the first one: all who sit", office.moved(), 2);
        office.seat(true);
        due("anew, nothing changed", office.moved(), 0);
        office.gone(0, true);
        due("told as it was then", office.moved(), 0);
        office.seat(true);
        due("one shifts, one comes in, one is not counted", office.moved(), 2);
        office.gone(0, false);
        office.seat(true);
        due("one who was not in it comes in, one shifts, one is left out", office.moved(), 3);
        office.row(4, 0, 20);
        office.seat(true);
        due("one comes in behind", office.moved(), 1);
        office.gone(0, true);
        office.seat(false);
        due("not anew: the one ahead is there all the same", office.moved(), 2);
        office.seat(false);
        due("not anew, nothing changed", office.moved(), 0);
    }

    private static void sits() {
        promise = 15;
        CrowningSeats office = office();
        join(office, 3, 5);
        join(office, 2, 5);
        join(office, 1, 1);
        office.row(5, 0, 20);
        due("without a seating", office.sits(0, 0), -2);
        office.guest(0, 0, 0, 1, 40, 1);
        office.gone(3, true);
        office.seat(false);
        due("row", office.sits(1, 0), 0);
        due("first place", office.sits(1, 1), 3);
        due("last place", office.sits(1, 2), 4);
        due("last place of the first one", office.sits(0, 2), 2);
        for (int what = 0; what <= 2; what++) {
            due("left out", office.sits(2, what), NONE);
            due("not in the order then", office.sits(3, what), -2);
            due("sits(-1)", office.sits(-1, what), -2);
            due("sits(4)", office.sits(4, what), -2);
            due("sits(lowest)", office.sits(LOW, what), -2);
            due("sits(highest)", office.sits(HIGH, what), -2);
        }
        due("what -1", office.sits(0, -1), -2);
        due("what 3", office.sits(0, 3), -2);
        due("what 3 of one left out", office.sits(2, 3), -2);
        office.gone(3, false);
        office.gone(0, true);
        office.guest(0, 0, 0, 1, 40, 1);
        read(office, "h;");
        due("gone later: as all was then", office.sits(0, 0), 0);
        due("back later: as all was then", office.sits(3, 0), -2);
        due("come later: as all was then", office.sits(4, 0), -2);
        due("other rules later: as all was then", office.sits(1, 1), 3);
        office.seat(false);
        due("anew, not in the order", office.sits(1, 0), -2);
    }

    private static void at() {
        promise = 16;
        CrowningSeats office = office();
        join(office, 2, 5);
        join(office, 2, 5);
        office.bar(0, 1, true);
        join(office, 4, 5);
        office.row(8, 0, 20);
        due("without a seating", office.at(0, 0), NONE);
        office.row(4, 0, 20);
        office.seat(false);
        int[] places = {0, 0, NONE, 1, 1, NONE, NONE, NONE, NONE};
        // The bar costs 5; to part them by rows would leave the third one out, at 5 as well: the first is taken.
        for (int place = 0; place < places.length; place++) {
            due("at(0, " + place + ")", office.at(0, place), places[place]);
            due("at(1, " + place + ")", office.at(1, place), place < 4 ? 2 : NONE);
        }
        due("place -1", office.at(0, -1), NONE);
        due("row -1", office.at(-1, 0), NONE);
        due("row 2", office.at(2, 0), NONE);
        due("lowest", office.at(LOW, LOW), NONE);
        due("highest", office.at(HIGH, HIGH), NONE);
        office.gone(0, true);
        due("as it was then", office.at(0, 0), 0);
    }

    private static void spare() {
        promise = 17;
        CrowningSeats office = office();
        join(office, 2, 5);
        join(office, 2, 5);
        office.bar(0, 1, true);
        office.row(8, 0, 20);
        due("without a seating", office.spare(0), NONE);
        office.seat(false);
        due("the empty one too", office.spare(0), 4);
        due("spare(1)", office.spare(1), NONE);
        due("spare(-1)", office.spare(-1), NONE);
        due("spare(lowest)", office.spare(LOW), NONE);
        due("spare(highest)", office.spare(HIGH), NONE);
        office.row(5, 0, 20);
        due("a row that came later", office.spare(1), NONE);
        office.seat(false);
        due("now it is in it", office.spare(1), 3);
        due("parted by rows", office.spare(0), 6);
        read(office, "");
        office.seat(false);
        due("nobody sits", office.spare(0), 8);
    }

    private static void hidden() {
        promise = 18;
        CrowningSeats office = office();
        joinWithEye(office, 4, 30);
        joinWithEye(office, 4, 40);
        office.guest(0, 0, 0, 4, 40, 1);
        office.row(4, 0, 40);
        office.row(4, 0, 40);
        due("without a seating", office.hidden(0), NONE);
        office.seat(false);
        due("nobody is before the first row", office.hidden(0), 0);
        office.set(30, 1, 5);
        due("the head just at the line", office.hidden(1), 0);
        office.set(29, 1, 5);
        due("the line half an inch lower", office.hidden(1), 1);
        office.set(300, 1, 5);
        due("a high stage", office.hidden(1), 0);
        office.set(0, 1, 5);
        due("a low stage", office.hidden(1), 1);
        due("left out", office.hidden(2), NONE);
        due("hidden(-1)", office.hidden(-1), NONE);
        due("hidden(3)", office.hidden(3), NONE);
        due("hidden(lowest)", office.hidden(LOW), NONE);
        due("hidden(highest)", office.hidden(HIGH), NONE);
        office.gone(0, true);
        due("who is gone hides it in that seating", office.hidden(1), 1);
        distanceFromTheRail();
    }

    private static void distanceFromTheRail() {
        CrowningSeats office = office();
        joinWithEye(office, 4, 45);
        joinWithEye(office, 4, 80);
        // The head at 50, the eye at 100: the line from 40 is at 40 + 60 * 20 / 80 = 55 over the first row.
        office.row(4, 0, 20);
        office.row(4, 20, 60);
        office.seat(false);
        office.set(34, 1, 5);
        due("34 + 66 / 4 = 50.5", office.hidden(1), 0);
        office.set(33, 1, 5);
        due("33 + 67 / 4 = 49.75", office.hidden(1), 1);
    }

    private static void hiddenByTheMiddle() {
        CrowningSeats office = office();
        for (int width : new int[] {1, 1, 2, 2, 1, 1}) {
            joinWithEye(office, width, 80);
        }
        office.guest(1, 0, 0, 4, 80, 1000);
        office.row(4, 0, 20);
        office.row(4, 0, 20);
        office.row(4, 0, 20);
        office.set(0, 1, 5);
        office.seat(false);
        dueSpot(office, 3, 1, 0);
        dueSpot(office, 6, 2, 0);
        due("a middle at a border: the place right of it", office.hider(3, 0), 1);
        due("and not the one left of it", office.hider(3, 1), NONE);
        due("the middle of a wide one's places", office.hider(4, 0), 2);
        due("the last place", office.hider(5, 0), 2);
        due("the border 2: one in each row", office.hidden(6), 2);
        due("the third one of the first row", office.hider(6, 0), 2);
        due("the second one of the second row", office.hider(6, 1), 4);
    }

    private static void hider() {
        promise = 19;
        CrowningSeats office = office();
        due("without a seating", office.hider(0, 0), NONE);
        // The order is 5, 4, .. 0: by rows, and not by numbers.
        read(office, "a by most date;");
        for (int i = 0; i < 6; i++) {
            office.guest(0, i, 0, 4, 60, 1000);
            office.row(4, 0, 20);
        }
        office.set(0, 1, 5);
        office.seat(false);
        for (int k = 0; k < 5; k++) {
            due("hider(0, " + k + ")", office.hider(0, k), 5 - k);
        }
        due("hider(0, 5)", office.hider(0, 5), NONE);
        due("hider(0, -1)", office.hider(0, -1), NONE);
        due("hider(0, lowest)", office.hider(0, LOW), NONE);
        due("hider(0, highest)", office.hider(0, HIGH), NONE);
        due("of the first row", office.hider(5, 0), NONE);
        due("hider(-1, 0)", office.hider(-1, 0), NONE);
        due("hider(6, 0)", office.hider(6, 0), NONE);
        office.set(300, 1, 5);
        due("a high stage", office.hider(0, 0), NONE);
    }

    private static void stage() {
        promise = 20;
        CrowningSeats office = office();
        joinWithEye(office, 4, 30);
        joinWithEye(office, 4, 40);
        office.guest(0, 0, 0, 4, 40, 1);
        office.row(4, 0, 40);
        office.row(4, 0, 40);
        due("without a seating", office.stage(0), NONE);
        office.seat(false);
        due("of the first row", office.stage(0), 0);
        due("just at the line", office.stage(1), 30);
        office.set(200, 1, 5);
        due("whatever it is now", office.stage(1), 30);
        due("left out", office.stage(2), NONE);
        due("stage(-1)", office.stage(-1), NONE);
        due("stage(3)", office.stage(3), NONE);
        due("stage(highest)", office.stage(HIGH), NONE);
        due("rounded up", stageOver(45, 0, 80, 20, 20, 60), 34);
        due("300 is enough", stageOver(75, 125, 80, 30, 40, 40), 300);
        due("301 would be", stageOver(75, 126, 80, 31, 40, 40), NONE);
        due("a third of an inch more than 299", stageOver(60, 155, 80, 21, 20, 30), 300);
        due("a third of an inch more than 300", stageOver(61, 155, 80, 22, 20, 30), NONE);
        due("none is enough", stageOver(80, 300, 30, 0, 40, 40), NONE);
        due("below 0 is 0", stageOver(30, 0, 80, 300, 40, 40), 0);
    }

    private static int stageOver(int frontEye, int frontFloor, int eye, int floor, int frontDeep, int deep) {
        CrowningSeats office = office();
        joinWithEye(office, 4, frontEye);
        joinWithEye(office, 4, eye);
        office.row(4, frontFloor, frontDeep);
        office.row(4, floor, deep);
        office.seat(false);
        return office.stage(1);
    }

    /** One row, with widths 2, 1, 3 side by side: the carriages come with 3, 1, 2. */
    private static CrowningSeats threeCarriages() {
        CrowningSeats office = office();
        join(office, 2, 5);
        join(office, 1, 5);
        join(office, 3, 5);
        office.row(6, 0, 20);
        return office;
    }

    private static void morning() {
        promise = 21;
        CrowningSeats office = threeCarriages();
        due("without a seating", office.morning(1, 100), -10000);
        office.seat(false);
        due("one gate", office.morning(1, 100), 94);
        due("two gates", office.morning(2, 100), 97);
        due("three gates", office.morning(3, 100), 97);
        due("four gates", office.morning(4, 100), 97);
        due("just in time", office.morning(1, 6), 0);
        due("too late", office.morning(1, 5), -1);
        due("shut at 0", office.morning(1, 0), -6);
        due("shut at 2000", office.morning(1, 2000), 1994);
        due("gates 0", office.morning(0, 100), -10000);
        due("gates 5", office.morning(5, 100), -10000);
        due("shut -1", office.morning(1, -1), -10000);
        due("shut 2001", office.morning(1, 2001), -10000);
        due("lowest", office.morning(LOW, LOW), -10000);
        due("highest", office.morning(HIGH, HIGH), -10000);
        office.gone(2, true);
        due("the latest seating, as it was", office.morning(1, 100), 94);
        office.seat(false);
        due("the new one", office.morning(1, 100), 97);
        read(office, "h;");
        office.seat(false);
        due("nobody sits", office.morning(1, 100), -10000);
    }

    private static void dueCarriage(CrowningSeats office, int guest, int minute, int gate, int turn) {
        due("comes(" + guest + ", 0)", office.comes(guest, 0), minute);
        due("comes(" + guest + ", 1)", office.comes(guest, 1), gate);
        due("comes(" + guest + ", 2)", office.comes(guest, 2), turn);
    }

    private static void comes() {
        promise = 22;
        CrowningSeats office = threeCarriages();
        office.guest(0, 0, 0, 1, 40, 1);
        office.seat(false);
        dueCarriage(office, 0, NONE, NONE, NONE);
        office.morning(1, 100);
        dueCarriage(office, 2, 0, 0, 0);
        dueCarriage(office, 1, 3, 0, 1);
        dueCarriage(office, 0, 4, 0, 2);
        dueCarriage(office, 3, NONE, NONE, NONE);
        office.morning(2, 100);
        dueCarriage(office, 2, 0, 0, 0);
        dueCarriage(office, 1, 0, 1, 1);
        dueCarriage(office, 0, 1, 1, 2);
        office.morning(0, 100);
        due("a refused one changes nothing", office.comes(0, 0), 1);
        due("what -1", office.comes(0, -1), NONE);
        due("what 3", office.comes(0, 3), NONE);
        due("comes(-1)", office.comes(-1, 0), NONE);
        due("comes(4)", office.comes(4, 0), NONE);
        due("comes(lowest)", office.comes(LOW, 0), NONE);
        due("comes(highest)", office.comes(HIGH, 0), NONE);
        read(office, "h;");
        office.seat(false);
        due("a later seating changes nothing", office.comes(0, 0), 1);
        due("nor a morning of nobody", office.morning(1, 100), -10000);
        due("which is refused", office.comes(0, 0), 1);
        lastRowFirst();
    }

    private static void lastRowFirst() {
        CrowningSeats office = office();
        for (int width : new int[] {2, 2, 3, 1, 1, 5}) {
            join(office, width, 1000);
        }
        office.row(4, 0, 20);
        office.row(5, 0, 20);
        office.row(5, 0, 20);
        office.seat(false);
        due("three gates", office.morning(3, 50), 45);
        dueCarriage(office, 5, 0, 0, 0);
        dueCarriage(office, 4, 0, 1, 1);
        dueCarriage(office, 3, 0, 2, 2);
        dueCarriage(office, 2, 1, 1, 3);
        dueCarriage(office, 1, 1, 2, 4);
        dueCarriage(office, 0, 3, 2, 5);
        office.gone(5, true);
        office.seat(false);
        office.morning(3, 50);
        dueCarriage(office, 5, NONE, NONE, NONE);
    }

    private static void all() {
        promise = 23;
        CrowningSeats office = office();
        for (int i = 0; i < 4; i++) {
            joinWithEye(office, 4, 60);
        }
        office.gone(3, true);
        office.row(4, 0, 20);
        office.row(4, 0, 20);
        office.bar(0, 1, true);
        office.bar(0, 3, true);
        office.bar(1, 3, true);
        int[] before = {4, 1, 2, 3, 3, 0, 0};
        for (int what = 0; what < 7; what++) {
            due("all(" + what + ") ahead of a seating", office.all(what), before[what]);
        }
        office.seat(false);
        due("who sit", office.all(5), 2);
        due("who see", office.all(6), 1);
        office.set(300, 1, 5);
        due("who see a high stage", office.all(6), 2);
        office.gone(0, true);
        due("who sat then", office.all(5), 2);
        due("gone now", office.all(1), 2);
        due("in the order now", office.all(4), 2);
        office.gone(0, false);
        due("gone now", office.all(1), 1);
        due("all(-1)", office.all(-1), NONE);
        due("all(7)", office.all(7), NONE);
        due("all(lowest)", office.all(LOW), NONE);
        due("all(highest)", office.all(HIGH), NONE);
    }

    /** 32 guests of whom all sit: no number below or above theirs is one of them. */
    private static void aFullHouse() {
        CrowningSeats office = office();
        for (int i = 0; i < 32; i++) {
            join(office, 1, 1000);
        }
        for (int i = 0; i < 6; i++) {
            office.row(6, 300, 60);
        }
        office.seat(false);
        due("morning(4, 100)", office.morning(4, 100), 92);
        for (int guest : new int[] {LOW, -1, 32, 33, HIGH}) {
            String nobody = "(" + guest + ")";
            promise = 5;
            due("gone" + nobody, office.gone(guest, true), false);
            promise = 6;
            due("bar" + nobody, office.bar(guest, 0, true) || office.bar(0, guest, true), false);
            promise = 11;
            due("rank" + nobody, office.rank(guest), NONE);
            promise = 12;
            due("ranked" + nobody, office.ranked(guest), NONE);
            promise = 15;
            due("sits" + nobody, office.sits(guest, 0), -2);
            promise = 16;
            due("at" + nobody, Math.max(office.at(guest, 0), office.at(0, guest)), NONE);
            promise = 17;
            due("spare" + nobody, office.spare(guest), NONE);
            promise = 18;
            due("hidden" + nobody, office.hidden(guest), NONE);
            promise = 19;
            due("hider" + nobody, Math.max(office.hider(guest, 0), office.hider(31, guest)), NONE);
            promise = 20;
            due("stage" + nobody, office.stage(guest), NONE);
            promise = 22;
            due("comes" + nobody, office.comes(guest, 0), NONE);
        }
        promise = 22;
        dueCarriage(office, 31, 0, 0, 0);
        dueCarriage(office, 0, 7, 3, 31);
        promise = 23;
        due("all(5)", office.all(5), 32);
        due("all(6)", office.all(6), 6);
        office.gone(0, true);
        promise = 12;
        due("ranked(30)", office.ranked(30), 31);
        due("ranked(31)", office.ranked(31), NONE);
    }
}
