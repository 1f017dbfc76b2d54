/** Promises 1 to 8, sentence by sentence where an edge is named: a new office, the tape, guests, bars, rows, settings. */
public final class EdgesOfTheListsTest extends SentenceTests {
    private static final int[] LEAST_GUEST = {0, 0, 0, 1, 30, 1};
    private static final int[] MOST_GUEST = {7, 9999, 120, 6, 80, 1000};
    private static final String[] GUEST_RANGES = {
        "KIND (0 .. 7, for the letters a to h)", "DATE (0 .. 9999)", "AGE (0 .. 120)", "WIDTH (1 .. 6 PLACES)",
        "EYE (30 .. 80 inches above the floor, seated; the HEAD's top is 5 above it)", "WORTH (1 .. 1000)"
    };
    private static final int[] LEAST_ROW = {4, 0, 20};
    private static final int[] MOST_ROW = {40, 300, 60};
    private static final String[] ROW_RANGES = {
        "WIDE (4 .. 40 PLACES, numbered from 0 on from the left)", "FLOOR (0 .. 300 inches high)",
        "DEEP (20 .. 60) inches behind the one ahead"
    };
    private static final int[] LEAST_SET = {0, 1, 0};
    private static final int[] MOST_SET = {300, 4, 1000};
    private static final String[] SET_RANGES = {
        "THE STAGE is STAGE inches high (0 .. 300; 60 at first)", "FREE (1 .. 4; 1 at first)",
        "EMPTY (0 .. 1000; 5 at first)"
    };

    public static void main(String[] args) {
        aNewObject();
        feed();
        end();
        guest();
        gone();
        bar();
        row();
        set();
        finish(1, 8);
    }

    // Promise 1.

    private static void aNewObject() {
        noGuestsAtFirst();
        noRowsAtFirst();
        noRulesAtFirst();
        theTextIsEmptyAtFirst();
        nothingWasDoneAtFirst();
        theStageAtFirst();
        freeAtFirst();
        emptyAtFirst();
        theLastOf512Calls();
        noneIsMinusOne();
    }

    private static void noGuestsAtFirst() {
        CrowningSeats office = test(1, "No GUESTS, ROWS, RULES.");
        due("all(0)", office.all(0), 0);
        due("all(1)", office.all(1), 0);
        due("all(3)", office.all(3), 0);
        due("gone(0, true)", office.gone(0, true), false);
        due("gone(0, false)", office.gone(0, false), false);
        due("bar(0, 1, true)", office.bar(0, 1, true), false);
        due("rank(0)", office.rank(0), NONE);
        due("the first guest", office.guest(0, 0, 0, 1, 30, 1), 0);
    }

    private static void noRowsAtFirst() {
        CrowningSeats office = test(1, "No GUESTS, ROWS, RULES.");
        due("all(2)", office.all(2), 0);
        office.seat(false);
        due("spare(0)", office.spare(0), NONE);
        due("at(0, 0)", office.at(0, 0), NONE);
        due("the first row", office.row(4, 0, 20), 1);
    }

    private static void noRulesAtFirst() {
        CrowningSeats office = test(1, "No GUESTS, ROWS, RULES.");
        for (int kind = 0; kind <= 7; kind++) {
            office.guest(kind, 0, 0, 1, 30, 1);
            due("rank(" + kind + ")", office.rank(kind), NONE);
        }
        due("all(4)", office.all(4), 0);
        due("ranked(0)", office.ranked(0), NONE);
    }

    private static void theTextIsEmptyAtFirst() {
        CrowningSeats office = test(1, "At first the text is empty.");
        due("end(0)", office.end(0), true);
        due("end(1)", office.end(1), false);
        due("rules()", office.rules(), 0);
        due("fault(0)", office.fault(0), 0);
    }

    private static void nothingWasDoneAtFirst() {
        CrowningSeats office = test(1, "No GUESTS, ROWS, RULES.");
        due("fault(0)", office.fault(0), 0);
        due("fault(1)", office.fault(1), NONE);
        due("moved()", office.moved(), NONE);
        due("sits(0, 0)", office.sits(0, 0), -2);
        due("hidden(0)", office.hidden(0), NONE);
        due("hider(0, 0)", office.hider(0, 0), NONE);
        due("stage(0)", office.stage(0), NONE);
        due("morning(1, 0)", office.morning(1, 0), -10000);
        due("comes(0, 0)", office.comes(0, 0), NONE);
        due("all(5)", office.all(5), 0);
        due("all(6)", office.all(6), 0);
    }

    /** A level line from 60 to 60 with a head at 60, and one from 61 to 60 with a head at 61: it is 60, and no more. */
    private static void theStageAtFirst() {
        CrowningSeats office = testWithRules(1, "THE STAGE is STAGE inches high (0 .. 300; 60 at first)");
        twoBehindOneAnother(office, 55, 60);
        due("a head of 60 and an eye of 60", office.hidden(1), 0);
        office = testWithRules(1, "THE STAGE is STAGE inches high (0 .. 300; 60 at first)");
        twoBehindOneAnother(office, 56, 61);
        due("a head of 61 and an eye of 61", office.hidden(1), 1);
    }

    private static void twoBehindOneAnother(CrowningSeats office, int frontEye, int eye) {
        joinWithEye(office, 4, frontEye);
        joinWithEye(office, 4, eye);
        addRows(office, 4, 4);
        office.seat(false);
    }

    private static void freeAtFirst() {
        CrowningSeats office = testWithRules(1, "FREE (1 .. 4; 1 at first)");
        twoWithABar(office);
        office.seat(false);
        dueSpot(office, 1, 0, 2);
    }

    private static void emptyAtFirst() {
        CrowningSeats office = testWithRules(1, "EMPTY (0 .. 1000; 5 at first)");
        twoWithABar(office);
        due("seat(false)", office.seat(false), 5);
    }

    private static void twoWithABar(CrowningSeats office) {
        joinAll(office, 2, 1, 1000);
        office.bar(0, 1, true);
        addRows(office, 40);
    }

    private static void theLastOf512Calls() {
        CrowningSeats office = test(1, "An object is used for at most 512 calls after it has been made");
        joinAll(office, 32, 1, 1000);
        addRows(office, 40);
        office.feed(0x613b2020, 0x20202020, 0x20202020, 0x20202020, 0x20202020);
        office.rules();
        for (int call = 36; call < 511; call++) {
            office.seat(call % 2 == 0);
        }
        due("call 511: seat(true)", office.seat(true), 0);
        due("call 512: sits(31, 2)", office.sits(31, 2), 31);
    }

    private static void noneIsMinusOne() {
        test(1, "`NONE = -1`: None; refused.");
        due("NONE", CrowningSeats.NONE, -1);
    }

    // Promise 2.

    private static void feed() {
        feedCounts();
        feedTheHighestByteFirst();
        feedBehindWhatIsThere();
        feedJustTo200();
        feedBeyond200();
        feedRefusedDoesNothing();
        feedNumbersBelow0();
    }

    private static void feedCounts() {
        CrowningSeats office = test(2, "Twenty bytes come behind those on the tape");
        due("behind none", office.feed(0, 0, 0, 0, 0), 20);
        due("behind 20", office.feed(LOW, HIGH, -1, 1, 0), 40);
        office.end(1);
        due("behind 1", office.feed(0, 0, 0, 0, 0), 21);
        office.rules();
        due("behind none, as the tape went", office.feed(0, 0, 0, 0, 0), 20);
    }

    private static void feedTheHighestByteFirst() {
        CrowningSeats office = test(2, "of each number the highest first: how many there are");
        for (int kind = 0; kind <= 7; kind++) {
            office.guest(kind, 0, 0, 1, 30, 1);
        }
        office.feed(0x683b613b, 0x673b623b, 0x663b633b, 0x653b643b, 0x0a20200a);
        due("rules()", office.rules(), 8);
        int[] order = {7, 0, 6, 1, 5, 2, 4, 3};
        for (int i = 0; i < order.length; i++) {
            due("ranked(" + i + ")", office.ranked(i), order[i]);
        }
    }

    private static void feedBehindWhatIsThere() {
        CrowningSeats office = test(2, "Twenty bytes come behind those on the tape");
        office.feed(0x613b6200, 0, 0, 0, 0);
        office.end(3);
        office.feed(0x3b633b64, 0x3b202020, 0x20202020, 0x20202020, 0x20202020);
        due("rules of 'a;b' and ';c;d;'", office.rules(), 4);
    }

    private static void feedJustTo200() {
        CrowningSeats office = test(2, "NONE, doing nothing, if there would be more than 200");
        for (int count = 20; count <= 200; count += 20) {
            due("feed", office.feed(0, 0, 0, 0, 0), count);
        }
        office.end(180);
        due("from 180 to 200", office.feed(0, 0, 0, 0, 0), 200);
    }

    private static void feedBeyond200() {
        for (int count = 181; count <= 200; count++) {
            CrowningSeats office = test(2, "NONE, doing nothing, if there would be more than 200");
            put(office, " ".repeat(count));
            due("behind " + count, office.feed(0, 0, 0, 0, 0), NONE);
        }
    }

    private static void feedRefusedDoesNothing() {
        CrowningSeats office = test(2, "NONE, doing nothing, if there would be more than 200");
        put(office, "a;" + " ".repeat(179));
        office.feed(-1, -1, -1, -1, -1);
        due("there are no 182", office.end(182), false);
        due("there are 181", office.end(181), true);
        due("the text is as it was", office.rules(), 1);
    }

    /** Of a number below 0 the highest byte is above 127; none of these is a letter, a sign or a blank with 128 more. */
    private static void feedNumbersBelow0() {
        for (int b : new int[] {0x80, 0xe1, 0x8a, 0xa0, 0xac, 0xbb, 0xff}) {
            CrowningSeats office = test(2, "of each number the highest first: how many there are");
            office.feed(0x613b2020, b << 24 | 0x623b20, 0x20202020, 0x20202020, 0x20202020);
            due("rules with the byte " + b, office.rules(), NONE);
            due("fault(0)", office.fault(0), 1);
            due("fault(1)", office.fault(1), 4);
        }
    }

    // Promise 3.

    private static void end() {
        endOfAnEmptyTape();
        endOfAFullTape();
        endKeepsTheFirstBytes();
        endBeyondWhatIsThere();
        endBelow0();
    }

    private static void endOfAnEmptyTape() {
        CrowningSeats office = test(3, "false, doing nothing, if it has not so many");
        due("end(0)", office.end(0), true);
        due("end(1)", office.end(1), false);
        office.feed(0, 0, 0, 0, 0);
        office.rules();
        due("end(0) behind rules()", office.end(0), true);
        due("end(1) behind rules()", office.end(1), false);
    }

    private static void endOfAFullTape() {
        CrowningSeats office = test(3, "false, doing nothing, if it has not so many");
        put(office, " ".repeat(200));
        due("end(201)", office.end(201), false);
        due("end(200)", office.end(200), true);
        due("end(199)", office.end(199), true);
        due("end(200), with 199", office.end(200), false);
    }

    private static void endKeepsTheFirstBytes() {
        CrowningSeats office = test(3, "The tape has its first n bytes alone: true");
        office.feed(0x613b623b, 0x633b643b, 0x653b663b, 0x673b683b, 0x3b3b3b3b);
        due("end(20): all stay", office.end(20), true);
        due("end(16)", office.end(16), true);
        due("end(6)", office.end(6), true);
        due("rules of 'a;b;c;'", office.rules(), 3);
        office.feed(0x613b623b, 0, 0, 0, 0);
        due("end(0)", office.end(0), true);
        due("rules of nothing", office.rules(), 0);
    }

    private static void endBeyondWhatIsThere() {
        for (int n : new int[] {21, 200, 201, HIGH}) {
            CrowningSeats office = test(3, "false, doing nothing, if it has not so many");
            dueEndRefused(office, n);
        }
    }

    private static void endBelow0() {
        for (int n : new int[] {-1, -20, LOW}) {
            CrowningSeats office = test(3, "or n is below 0");
            dueEndRefused(office, n);
        }
    }

    private static void dueEndRefused(CrowningSeats office, int n) {
        office.feed(0x613b623b, 0x633b643b, 0x653b663b, 0x673b683b, 0x20202020);
        due("end(" + n + ")", office.end(n), false);
        due("all 20 are there", office.feed(0x20202020, 0x20202020, 0x20202020, 0x20202020, 0x20202020), 40);
        due("as they were", office.rules(), 8);
    }

    // Promise 4.

    private static void guest() {
        for (int field = 0; field < 6; field++) {
            guestWithTheLeast(field);
            guestWithTheMost(field);
            guestWithTooLittle(field);
            guestWithTooMuch(field);
        }
        kindsAreLetters();
        guestsUpTo32();
        theGoneCountAmong32();
        guestRefusedDoesNothing();
    }

    private static int guestWith(CrowningSeats office, int field, int value) {
        int[] n = {3, 500, 50, 2, 50, 500};
        n[field] = value;
        return office.guest(n[0], n[1], n[2], n[3], n[4], n[5]);
    }

    private static void guestWithTheLeast(int field) {
        CrowningSeats office = test(4, GUEST_RANGES[field]);
        due("the least", guestWith(office, field, LEAST_GUEST[field]), 0);
        due("the next", guestWith(office, field, LEAST_GUEST[field] + 1), 1);
    }

    private static void guestWithTheMost(int field) {
        CrowningSeats office = test(4, GUEST_RANGES[field]);
        due("the last but one", guestWith(office, field, MOST_GUEST[field] - 1), 0);
        due("the most", guestWith(office, field, MOST_GUEST[field]), 1);
    }

    private static void guestWithTooLittle(int field) {
        CrowningSeats office = test(4, GUEST_RANGES[field]);
        due("one too few", guestWith(office, field, LEAST_GUEST[field] - 1), NONE);
        due("the lowest number", guestWith(office, field, LOW), NONE);
        due("nobody came", office.all(0), 0);
    }

    private static void guestWithTooMuch(int field) {
        CrowningSeats office = test(4, GUEST_RANGES[field]);
        due("one too many", guestWith(office, field, MOST_GUEST[field] + 1), NONE);
        due("the highest number", guestWith(office, field, HIGH), NONE);
        due("nobody came", office.all(0), 0);
    }

    private static void kindsAreLetters() {
        CrowningSeats office = test(4, "KIND (0 .. 7, for the letters a to h)");
        office.guest(0, 0, 0, 1, 30, 1);
        office.guest(7, 0, 0, 1, 30, 1);
        read(office, "h;");
        due("the 7 is in 'h;'", office.rank(1), 0);
        due("the 0 is not", office.rank(0), NONE);
        read(office, "a;");
        due("the 0 is in 'a;'", office.rank(0), 0);
        due("the 7 is not", office.rank(1), NONE);
    }

    private static void guestsUpTo32() {
        CrowningSeats office = test(4, "NONE if something can't be, or there are 32.");
        for (int i = 0; i < 32; i++) {
            due("guest " + i, join(office, 1, 1), i);
        }
        due("one more", join(office, 1, 1), NONE);
        due("and again", join(office, 6, 1000), NONE);
        due("all(0)", office.all(0), 32);
    }

    private static void theGoneCountAmong32() {
        CrowningSeats office = test(4, "GUESTS, numbered from 0 on (32 at most)");
        joinAll(office, 32, 1, 1);
        office.gone(0, true);
        office.gone(31, true);
        due("two are gone, but there are 32", join(office, 1, 1), NONE);
    }

    private static void guestRefusedDoesNothing() {
        CrowningSeats office = testWithRules(4, "A GUEST: the number; NONE if something can't be");
        join(office, 1, 1);
        office.guest(0, 0, 0, 7, 30, 1);
        due("all(0)", office.all(0), 1);
        due("all(4)", office.all(4), 1);
        due("the next one's number", join(office, 1, 1), 1);
    }

    // Promise 5.

    private static void gone() {
        goneTheFirstAndTheLast();
        goneNoneSuch();
        goneOfNobody();
        goneAlready();
        hereAlready();
    }

    private static void goneTheFirstAndTheLast() {
        CrowningSeats office = testWithRules(5, "A GUEST is GONE (or comes after all): true");
        joinAll(office, 32, 1, 1);
        due("gone(0, true)", office.gone(0, true), true);
        due("gone(31, true)", office.gone(31, true), true);
        due("all(1)", office.all(1), 2);
        due("rank(0)", office.rank(0), NONE);
        due("rank(31)", office.rank(31), NONE);
        due("gone(31, false)", office.gone(31, false), true);
        due("gone(0, false)", office.gone(0, false), true);
        due("all(1)", office.all(1), 0);
        due("rank(0)", office.rank(0), 0);
        due("rank(31)", office.rank(31), 31);
    }

    private static void goneNoneSuch() {
        CrowningSeats office = test(5, "false if there is none such, or it is so already.");
        joinAll(office, 2, 1, 1);
        for (int guest : new int[] {LOW, -1, 2, 31, 32, 33, HIGH}) {
            due("gone(" + guest + ", true)", office.gone(guest, true), false);
            due("gone(" + guest + ", false)", office.gone(guest, false), false);
        }
        due("all(1)", office.all(1), 0);
        joinAll(office, 30, 1, 1);
        due("gone(32, true) of 32", office.gone(32, true), false);
        due("gone(31, true) of 32", office.gone(31, true), true);
    }

    private static void goneOfNobody() {
        CrowningSeats office = test(5, "false if there is none such, or it is so already.");
        due("gone(0, true)", office.gone(0, true), false);
        join(office, 1, 1);
        due("who comes later is not gone", office.all(1), 0);
        due("gone(0, true) now", office.gone(0, true), true);
    }

    private static void goneAlready() {
        CrowningSeats office = test(5, "false if there is none such, or it is so already.");
        join(office, 1, 1);
        office.gone(0, true);
        due("gone(0, true) again", office.gone(0, true), false);
        due("all(1)", office.all(1), 1);
    }

    private static void hereAlready() {
        CrowningSeats office = test(5, "false if there is none such, or it is so already.");
        join(office, 1, 1);
        due("gone(0, false) at first", office.gone(0, false), false);
        office.gone(0, true);
        office.gone(0, false);
        due("gone(0, false) again", office.gone(0, false), false);
        due("all(1)", office.all(1), 0);
    }

    // Promise 6.

    private static void bar() {
        barOfTheFirstAndTheLast();
        barOfOneGuest();
        barNoneSuch();
        barAlready();
        barOffAlready();
        barOfWhoIsGone();
    }

    private static void barOfTheFirstAndTheLast() {
        CrowningSeats office = test(6, "Two GUESTS have a BAR (or have none): true");
        joinAll(office, 32, 1, 1);
        for (int other = 1; other < 32; other++) {
            due("bar(0, " + other + ", true)", office.bar(0, other, true), true);
        }
        due("bar(31, 30, true)", office.bar(31, 30, true), true);
        due("all(3)", office.all(3), 32);
        due("bar(31, 0, false)", office.bar(31, 0, false), true);
        due("bar(30, 31, false)", office.bar(30, 31, false), true);
        due("all(3)", office.all(3), 30);
    }

    private static void barOfOneGuest() {
        CrowningSeats office = test(6, "false if there are no two such, or it is so already.");
        due("nobody", office.bar(0, 0, true), false);
        join(office, 1, 1);
        due("with oneself", office.bar(0, 0, true), false);
        due("off with oneself", office.bar(0, 0, false), false);
        due("with one who is not there", office.bar(0, 1, true), false);
        due("all(3)", office.all(3), 0);
    }

    /** A number 32 higher or lower is not taken for the one that is there. */
    private static void barNoneSuch() {
        CrowningSeats office = test(6, "false if there are no two such, or it is so already.");
        joinAll(office, 32, 1, 1);
        office.bar(0, 1, true);
        for (int guest : new int[] {LOW, -32, -31, -1, 32, 33, HIGH}) {
            for (boolean bar : new boolean[] {true, false}) {
                due("bar(0, " + guest + ", " + bar + ")", office.bar(0, guest, bar), false);
                due("bar(" + guest + ", 1, " + bar + ")", office.bar(guest, 1, bar), false);
                due("bar(" + guest + ", " + guest + ", " + bar + ")", office.bar(guest, guest, bar), false);
            }
        }
        due("all(3)", office.all(3), 1);
    }

    private static void barAlready() {
        CrowningSeats office = test(6, "false if there are no two such, or it is so already.");
        joinAll(office, 2, 1, 1);
        office.bar(0, 1, true);
        due("bar(0, 1, true)", office.bar(0, 1, true), false);
        due("bar(1, 0, true)", office.bar(1, 0, true), false);
        due("all(3)", office.all(3), 1);
    }

    private static void barOffAlready() {
        CrowningSeats office = test(6, "false if there are no two such, or it is so already.");
        joinAll(office, 3, 1, 1);
        due("bar(0, 1, false)", office.bar(0, 1, false), false);
        office.bar(0, 1, true);
        due("another pair", office.bar(0, 2, false), false);
        due("bar(1, 0, false)", office.bar(1, 0, false), true);
        due("bar(0, 1, false)", office.bar(0, 1, false), false);
        due("all(3)", office.all(3), 0);
    }

    private static void barOfWhoIsGone() {
        CrowningSeats office = test(6, "BARS are pairs of them who may not sit side by side.");
        joinAll(office, 2, 1, 1);
        office.gone(0, true);
        due("one is gone, but there", office.bar(0, 1, true), true);
        due("all(3)", office.all(3), 1);
        office.gone(1, true);
        due("both are gone", office.bar(1, 0, false), true);
        due("all(3)", office.all(3), 0);
    }

    // Promise 7.

    private static void row() {
        for (int field = 0; field < 3; field++) {
            rowWithTheLeastAndTheMost(field);
            rowWithTooLittle(field);
            rowWithTooMuch(field);
        }
        rowsUpTo6();
        rowsAreNumberedFrom0();
        rowBehindAllOthers();
        theLastPlaceOfTheWidest();
        rowRefusedDoesNothing();
    }

    private static int rowWith(CrowningSeats office, int field, int value) {
        int[] n = {10, 100, 40};
        n[field] = value;
        return office.row(n[0], n[1], n[2]);
    }

    private static void rowWithTheLeastAndTheMost(int field) {
        CrowningSeats office = test(7, ROW_RANGES[field]);
        due("the least", rowWith(office, field, LEAST_ROW[field]), 1);
        due("the next", rowWith(office, field, LEAST_ROW[field] + 1), 2);
        due("the last but one", rowWith(office, field, MOST_ROW[field] - 1), 3);
        due("the most", rowWith(office, field, MOST_ROW[field]), 4);
    }

    private static void rowWithTooLittle(int field) {
        CrowningSeats office = test(7, ROW_RANGES[field]);
        due("one too few", rowWith(office, field, LEAST_ROW[field] - 1), NONE);
        due("the lowest number", rowWith(office, field, LOW), NONE);
        due("none came", office.all(2), 0);
    }

    private static void rowWithTooMuch(int field) {
        CrowningSeats office = test(7, ROW_RANGES[field]);
        due("one too many", rowWith(office, field, MOST_ROW[field] + 1), NONE);
        due("the highest number", rowWith(office, field, HIGH), NONE);
        due("none came", office.all(2), 0);
    }

    private static void rowsUpTo6() {
        CrowningSeats office = test(7, "NONE if something can't be, or there are 6.");
        for (int count = 1; count <= 6; count++) {
            due("row " + count, office.row(4, 0, 20), count);
        }
        due("one more", office.row(4, 0, 20), NONE);
        due("all(2)", office.all(2), 6);
    }

    private static void rowsAreNumberedFrom0() {
        CrowningSeats office = testWithRules(7, "ROWS, numbered from 0 on (6 at most), the first one in front");
        joinAll(office, 6, 4, 1000);
        addRows(office, 4, 4, 4, 4, 4, 4, 4);
        office.seat(false);
        due("at(-1, 0)", office.at(-1, 0), NONE);
        for (int row = 0; row < 6; row++) {
            due("at(" + row + ", 0)", office.at(row, 0), row);
        }
        due("at(6, 0)", office.at(6, 0), NONE);
        office.set(0, 1, 5);
        due("nobody is before the first one", office.hidden(0), 0);
        due("all others are before the last one", office.hidden(5), 5);
    }

    private static void rowBehindAllOthers() {
        CrowningSeats office = test(7, "A ROW behind all others: how many there are");
        for (int i = 0; i < 6; i++) {
            office.row(4 + i, 0, 20);
        }
        office.seat(false);
        for (int i = 0; i < 6; i++) {
            due("spare(" + i + ")", office.spare(i), 4 + i);
        }
    }

    private static void theLastPlaceOfTheWidest() {
        CrowningSeats office = testWithRules(7, ROW_RANGES[0]);
        joinAll(office, 10, 4, 1000);
        office.row(40, 0, 20);
        due("all sit", office.seat(false), 0);
        due("at(0, 39)", office.at(0, 39), 9);
        due("at(0, 40)", office.at(0, 40), NONE);
        due("spare(0)", office.spare(0), 0);
    }

    private static void rowRefusedDoesNothing() {
        CrowningSeats office = test(7, "NONE if something can't be, or there are 6.");
        office.row(5, 0, 20);
        office.row(40, 301, 20);
        due("all(2)", office.all(2), 1);
        due("the next one", office.row(6, 0, 20), 2);
        office.seat(false);
        due("spare(0)", office.spare(0), 5);
        due("spare(1)", office.spare(1), 6);
    }

    // Promise 8.

    private static void set() {
        for (int field = 0; field < 3; field++) {
            setWithTheLeastAndTheMost(field);
            setWithTooLittle(field);
            setWithTooMuch(field);
        }
        setFreeAndEmptyToTheLeast();
        setFreeAndEmptyToTheMost();
        setTheStageToTheLeast();
        setTheStageToTheMost();
        setRefusedDoesNothing();
    }

    private static boolean setWith(CrowningSeats office, int field, int value) {
        int[] n = {100, 2, 100};
        n[field] = value;
        return office.set(n[0], n[1], n[2]);
    }

    private static void setWithTheLeastAndTheMost(int field) {
        CrowningSeats office = test(8, SET_RANGES[field]);
        due("the least", setWith(office, field, LEAST_SET[field]), true);
        due("the next", setWith(office, field, LEAST_SET[field] + 1), true);
        due("the last but one", setWith(office, field, MOST_SET[field] - 1), true);
        due("the most", setWith(office, field, MOST_SET[field]), true);
    }

    private static void setWithTooLittle(int field) {
        CrowningSeats office = test(8, SET_RANGES[field]);
        due("one too few", setWith(office, field, LEAST_SET[field] - 1), false);
        due("the lowest number", setWith(office, field, LOW), false);
    }

    private static void setWithTooMuch(int field) {
        CrowningSeats office = test(8, SET_RANGES[field]);
        due("one too many", setWith(office, field, MOST_SET[field] + 1), false);
        due("the highest number", setWith(office, field, HIGH), false);
    }

    /** Two who have a bar in front, and one behind them: with one EMPTY place, straight behind the second one. */
    private static void barBeforeAnEye(CrowningSeats office, int frontEye) {
        joinWithEye(office, 1, frontEye);
        joinWithEye(office, 6, frontEye);
        joinWithEye(office, 5, 60);
        office.bar(0, 1, true);
        office.row(11, 0, 20);
        office.row(5, 0, 20);
    }

    private static void setFreeAndEmptyToTheLeast() {
        CrowningSeats office = testWithRules(8, "STAGE, FREE, EMPTY: true; false if one can't be.");
        barBeforeAnEye(office, 30);
        office.set(0, 1, 0);
        due("EMPTY is 0", office.seat(false), 0);
        due("FREE is 1", office.sits(1, 1), 2);
    }

    private static void setFreeAndEmptyToTheMost() {
        CrowningSeats office = testWithRules(8, "STAGE, FREE, EMPTY: true; false if one can't be.");
        barBeforeAnEye(office, 30);
        office.set(300, 4, 999);
        due("EMPTY is 999", office.seat(false), 999);
        due("FREE is 4", office.sits(1, 1), 5);
        office.set(300, 4, 1000);
        due("EMPTY is 1000", office.seat(false), 1000);
    }

    /** Over the first row, a quarter of the way, the line from 143 is at 35.75 for a stage of 0, at 36.5 for one of 1. */
    private static void setTheStageToTheLeast() {
        CrowningSeats office = testWithRules(8, "STAGE, FREE, EMPTY: true; false if one can't be.");
        joinWithEye(office, 4, 31);
        joinWithEye(office, 4, 80);
        office.row(4, 0, 20);
        office.row(4, 63, 60);
        office.seat(false);
        office.set(0, 1, 5);
        due("STAGE is 0: a head at 36 is above the line", office.hidden(1), 1);
        office.set(1, 1, 5);
        due("STAGE is 1: it is not", office.hidden(1), 0);
    }

    /** Over the first row, half the way, the line from 110 is at 205 for a stage of 300. */
    private static void setTheStageToTheMost() {
        CrowningSeats office = testWithRules(8, "STAGE, FREE, EMPTY: true; false if one can't be.");
        joinWithEye(office, 4, 75);
        joinWithEye(office, 4, 80);
        office.row(4, 125, 40);
        office.row(4, 30, 40);
        office.seat(false);
        office.set(299, 1, 5);
        due("STAGE is 299: a head at 205 is above the line", office.hidden(1), 1);
        office.set(300, 1, 5);
        due("STAGE is 300: it is not", office.hidden(1), 0);
    }

    private static void setRefusedDoesNothing() {
        int[][] refused = {{301, 2, 7}, {-1, 2, 7}, {0, 5, 7}, {0, 0, 7}, {0, 2, 1001}, {0, 2, -1}};
        for (int[] one : refused) {
            CrowningSeats office = testWithRules(8, "STAGE, FREE, EMPTY: true; false if one can't be.");
            barBeforeAnEye(office, 55);
            due("refused", office.set(one[0], one[1], one[2]), false);
            due("EMPTY is 5", office.seat(false), 5);
            due("FREE is 1", office.sits(1, 1), 2);
            due("STAGE is 60: line and head at 60", office.hidden(2), 0);
        }
    }
}
