/** Promises 21 to 23, sentence by sentence where an edge is named: the carriages of the morning, and the sums of all. */
public final class EdgesOfTheMorningTest extends SentenceTests {
    private static final String MORNING = "THE MORNING of the latest SEATING: the minute at which it is BEGUN (below 0: too"
        + " late)";
    private static final String REFUSED = "-10000 if a number can't be, or nobody sits.";
    private static final String GATES = "with G GATES (1 .. 4)";
    private static final String SHUT = "the doors shut at a minute (0 .. 2000)";
    private static final String LAST_FIRST = "carriages of all who sit come from the last ROW to the first one, in each ROW"
        + " from the greatest PLACE to the least.";
    private static final String EACH_OTHER = "each other one at the least minute, not ahead of that of the one before, at"
        + " which a GATE is free, to the least such GATE";
    private static final String BEGUN = "All is BEGUN so many minutes later that the latest of all their minutes ends just"
        + " when the doors are shut.";
    private static final String COMES = "0 the minute of the carriage (from BEGUN on counted as 0), 1 the GATE, 2 which one it"
        + " was (from 0 on).";
    private static final String NOT_REFUSED = "Of a GUEST in the latest morning() that was not refused";
    private static final String NONE_SUCH = "NONE if there is none such, or for others.";
    private static final String ALL = "Of all: 0 GUESTS, 1 those GONE, 2 ROWS, 3 BARS, 4 GUESTS in THE ORDER, 5 who sit, 6"
        + " who SEE.";
    private static final int REFUSAL = -10000;

    public static void main(String[] args) {
        morning();
        comes();
        all();
        finish(21, 23);
    }

    /** All sit side by side in one row, so that the last one's carriage comes first. */
    private static void seatInOneRow(CrowningSeats office, int... widths) {
        for (int width : widths) {
            join(office, width, 1000);
        }
        addRows(office, 40);
        office.seat(false);
    }

    private static void seat32(CrowningSeats office) {
        joinAll(office, 32, 6, 1000);
        addRows(office, 40, 40, 40, 40, 40, 40);
        office.seat(false);
    }

    private static void dueCarriage(CrowningSeats office, int guest, int minute, int gate, int turn) {
        due("comes(" + guest + ", 0)", office.comes(guest, 0), minute);
        due("comes(" + guest + ", 1)", office.comes(guest, 1), gate);
        due("comes(" + guest + ", 2)", office.comes(guest, 2), turn);
    }

    // Promise 21.

    private static void morning() {
        morningWithGates();
        morningWithNoSuchGates();
        morningWithShut();
        morningWithNoSuchShut();
        morningOfNobody();
        morningJustInTimeAndTooLate();
        morningOfOne();
        morningOf32();
        morningInWhichAnEarlierOneEndsLast();
        morningOfTheLatestSeating();
    }

    private static void morningWithGates() {
        CrowningSeats office = testWithRules(21, GATES);
        seatInOneRow(office, 2, 2, 2, 2, 2);
        int[] last = {10, 6, 4, 4};
        for (int gates = 1; gates <= 4; gates++) {
            due("morning(" + gates + ", 100)", office.morning(gates, 100), 100 - last[gates - 1]);
        }
    }

    private static void morningWithNoSuchGates() {
        CrowningSeats office = testWithRules(21, REFUSED);
        seatInOneRow(office, 2);
        for (int gates : new int[] {LOW, -1, 0, 5, 6, HIGH}) {
            due("morning(" + gates + ", 100)", office.morning(gates, 100), REFUSAL);
        }
    }

    private static void morningWithShut() {
        CrowningSeats office = testWithRules(21, SHUT);
        seatInOneRow(office, 3);
        due("morning(1, 0)", office.morning(1, 0), -3);
        due("morning(1, 1)", office.morning(1, 1), -2);
        due("morning(1, 1999)", office.morning(1, 1999), 1996);
        due("morning(1, 2000)", office.morning(1, 2000), 1997);
    }

    private static void morningWithNoSuchShut() {
        CrowningSeats office = testWithRules(21, REFUSED);
        seatInOneRow(office, 3);
        for (int shut : new int[] {LOW, -2, -1, 2001, 2002, HIGH}) {
            due("morning(1, " + shut + ")", office.morning(1, shut), REFUSAL);
        }
    }

    private static void morningOfNobody() {
        CrowningSeats office = testWithRules(21, REFUSED);
        due("a new office", office.morning(1, 100), REFUSAL);
        join(office, 5, 1);
        addRows(office, 4);
        due("no seating", office.morning(1, 100), REFUSAL);
        office.seat(false);
        due("all are left out", office.morning(1, 100), REFUSAL);
        join(office, 1, 1);
        due("the seating is older", office.morning(1, 100), REFUSAL);
        office.seat(false);
        due("one sits", office.morning(1, 100), 99);
        read(office, "");
        office.seat(false);
        due("nobody is in the order", office.morning(1, 100), REFUSAL);
    }

    private static void morningJustInTimeAndTooLate() {
        CrowningSeats office = testWithRules(21, MORNING);
        seatInOneRow(office, 2, 3);
        due("a minute too many", office.morning(1, 6), 1);
        due("just in time", office.morning(1, 5), 0);
        due("a minute too late", office.morning(1, 4), -1);
    }

    private static void morningOfOne() {
        for (int width = 1; width <= 6; width++) {
            CrowningSeats office = testWithRules(21, "a carriage takes a GATE for WIDTH minutes");
            seatInOneRow(office, width);
            due("morning(4, 10)", office.morning(4, 10), 10 - width);
        }
    }

    private static void morningOf32() {
        CrowningSeats office = testWithRules(21, MORNING);
        seat32(office);
        due("the earliest", office.morning(1, 0), -192);
        due("one gate", office.morning(1, 192), 0);
        due("two gates", office.morning(2, 192), 96);
        due("three gates", office.morning(3, 192), 126);
        due("four gates", office.morning(4, 2000), 1952);
    }

    private static void morningInWhichAnEarlierOneEndsLast() {
        CrowningSeats office = testWithRules(21, BEGUN);
        seatInOneRow(office, 1, 6);
        due("morning(2, 10)", office.morning(2, 10), 4);
        due("morning(1, 10)", office.morning(1, 10), 3);
        office = testWithRules(21, BEGUN);
        seatInOneRow(office, 6, 1);
        due("the later one ends last", office.morning(2, 10), 4);
    }

    private static void morningOfTheLatestSeating() {
        CrowningSeats office = testWithRules(21, MORNING);
        seatInOneRow(office, 2, 3);
        office.gone(1, true);
        join(office, 6, 1000);
        due("as it was then", office.morning(1, 100), 95);
        office.seat(true);
        due("the next one", office.morning(1, 100), 92);
    }

    // Promise 22.

    private static void comes() {
        comesWithoutAMorning();
        comesTheFirst();
        comesTheLastOf32();
        comesToTheLeastGate();
        comesFromTheLastRow();
        comesTooLate();
        comesAfterARefusedMorning();
        comesAfterALaterSeating();
        comesInTheLatestMorning();
        comesNotThoseWhoDoNotSit();
        comesNoneSuch();
        comesForOthers();
    }

    private static void comesWithoutAMorning() {
        CrowningSeats office = testWithRules(22, NOT_REFUSED);
        seatInOneRow(office, 2);
        dueCarriage(office, 0, NONE, NONE, NONE);
        office.morning(0, 100);
        office.morning(1, 2001);
        dueCarriage(office, 0, NONE, NONE, NONE);
    }

    private static void comesTheFirst() {
        for (int shut : new int[] {0, 1, 2000}) {
            CrowningSeats office = testWithRules(22, "The first one comes at minute 0 to GATE 0");
            seatInOneRow(office, 2, 6);
            office.morning(4, shut);
            dueCarriage(office, 1, 0, 0, 0);
        }
    }

    private static void comesTheLastOf32() {
        CrowningSeats office = testWithRules(22, COMES);
        seat32(office);
        office.morning(1, 2000);
        dueCarriage(office, 31, 0, 0, 0);
        dueCarriage(office, 30, 6, 0, 1);
        dueCarriage(office, 0, 186, 0, 31);
        office.morning(4, 2000);
        dueCarriage(office, 31, 0, 0, 0);
        dueCarriage(office, 28, 0, 3, 3);
        dueCarriage(office, 27, 6, 0, 4);
        dueCarriage(office, 0, 42, 3, 31);
    }

    /** They come with 4, 2, 2, 3, 1, 1 minutes to three gates. */
    private static void comesToTheLeastGate() {
        CrowningSeats office = testWithRules(22, EACH_OTHER);
        seatInOneRow(office, 1, 1, 3, 2, 2, 4);
        due("morning(3, 5)", office.morning(3, 5), 0);
        dueCarriage(office, 5, 0, 0, 0);
        dueCarriage(office, 4, 0, 1, 1);
        dueCarriage(office, 3, 0, 2, 2);
        dueCarriage(office, 2, 2, 1, 3);
        dueCarriage(office, 1, 2, 2, 4);
        dueCarriage(office, 0, 3, 2, 5);
        office = testWithRules(22, EACH_OTHER);
        seatInOneRow(office, 1, 1, 3, 3);
        office.morning(2, 100);
        dueCarriage(office, 2, 0, 1, 1);
        dueCarriage(office, 1, 3, 0, 2);
        dueCarriage(office, 0, 3, 1, 3);
    }

    private static void comesFromTheLastRow() {
        CrowningSeats office = testWithRules(22, LAST_FIRST);
        joinAll(office, 4, 2, 1000);
        office.bar(2, 3, true);
        addRows(office, 4, 5);
        office.seat(false);
        office.morning(1, 100);
        dueCarriage(office, 3, 0, 0, 0);
        dueCarriage(office, 2, 2, 0, 1);
        dueCarriage(office, 1, 4, 0, 2);
        dueCarriage(office, 0, 6, 0, 3);
    }

    private static void comesTooLate() {
        CrowningSeats office = testWithRules(22, NOT_REFUSED);
        seatInOneRow(office, 2, 3);
        due("too late, but not refused", office.morning(1, 0), -5);
        dueCarriage(office, 1, 0, 0, 0);
        dueCarriage(office, 0, 3, 0, 1);
    }

    private static void comesAfterARefusedMorning() {
        int[][] refused = {{0, 100}, {5, 100}, {LOW, 100}, {HIGH, 100}, {2, -1}, {2, 2001}, {2, LOW}, {2, HIGH}};
        for (int[] one : refused) {
            CrowningSeats office = testWithRules(22, NOT_REFUSED);
            seatInOneRow(office, 2, 3);
            office.morning(1, 100);
            due("refused", office.morning(one[0], one[1]), REFUSAL);
            dueCarriage(office, 1, 0, 0, 0);
            dueCarriage(office, 0, 3, 0, 1);
        }
    }

    private static void comesAfterALaterSeating() {
        CrowningSeats office = testWithRules(22, NOT_REFUSED);
        seatInOneRow(office, 2, 3);
        office.morning(1, 100);
        office.gone(0, true);
        office.seat(false);
        dueCarriage(office, 0, 3, 0, 1);
        read(office, "");
        office.seat(false);
        due("nobody sits: refused", office.morning(1, 100), REFUSAL);
        dueCarriage(office, 1, 0, 0, 0);
        dueCarriage(office, 0, 3, 0, 1);
    }

    private static void comesInTheLatestMorning() {
        CrowningSeats office = testWithRules(22, NOT_REFUSED);
        seatInOneRow(office, 2, 3);
        office.morning(1, 100);
        office.morning(2, 100);
        dueCarriage(office, 1, 0, 0, 0);
        dueCarriage(office, 0, 0, 1, 1);
        office.gone(1, true);
        office.seat(false);
        office.morning(2, 100);
        dueCarriage(office, 0, 0, 0, 0);
        dueCarriage(office, 1, NONE, NONE, NONE);
    }

    private static void comesNotThoseWhoDoNotSit() {
        CrowningSeats office = testWithRules(22, NONE_SUCH);
        join(office, 4, 1000);
        join(office, 4, 1);
        join(office, 4, 1000);
        office.gone(2, true);
        addRows(office, 4);
        office.seat(false);
        office.morning(1, 100);
        join(office, 1, 1);
        dueCarriage(office, 0, 0, 0, 0);
        dueCarriage(office, 1, NONE, NONE, NONE);
        dueCarriage(office, 2, NONE, NONE, NONE);
        dueCarriage(office, 3, NONE, NONE, NONE);
    }

    private static void comesNoneSuch() {
        CrowningSeats office = testWithRules(22, NONE_SUCH);
        seat32(office);
        office.morning(1, 100);
        for (int guest : new int[] {LOW, -2, -1, 32, 33, HIGH}) {
            dueCarriage(office, guest, NONE, NONE, NONE);
        }
    }

    private static void comesForOthers() {
        CrowningSeats office = testWithRules(22, NONE_SUCH);
        seatInOneRow(office, 2);
        office.morning(1, 100);
        for (int what : new int[] {LOW, -2, -1, 3, 4, HIGH}) {
            due("comes(0, " + what + ")", office.comes(0, what), NONE);
        }
    }

    // Promise 23.

    private static void all() {
        allOfNothing();
        allOfAFullHouse();
        allGone();
        allAfterRefusedCalls();
        allNowAndThen();
        allWhoSee();
        allForOthers();
    }

    private static void dueAll(CrowningSeats office, int... sums) {
        for (int what = 0; what < sums.length; what++) {
            due("all(" + what + ")", office.all(what), sums[what]);
        }
    }

    private static void allOfNothing() {
        CrowningSeats office = test(23, ALL);
        dueAll(office, 0, 0, 0, 0, 0, 0, 0);
        office.seat(false);
        dueAll(office, 0, 0, 0, 0, 0, 0, 0);
    }

    private static void allOfAFullHouse() {
        CrowningSeats office = testWithRules(23, ALL);
        seat32(office);
        for (int i = 1; i < 32; i++) {
            office.bar(i - 1, i, true);
        }
        office.set(300, 1, 5);
        dueAll(office, 32, 0, 6, 31, 32, 32, 32);
        office.set(0, 1, 5);
        due("who see a low stage, all as high as the others", office.all(6), 6);
    }

    private static void allGone() {
        CrowningSeats office = testWithRules(23, ALL);
        joinAll(office, 32, 1, 1);
        office.bar(0, 31, true);
        for (int i = 0; i < 32; i++) {
            office.gone(i, true);
        }
        dueAll(office, 32, 32, 0, 1, 0, 0, 0);
        office.gone(31, false);
        dueAll(office, 32, 31, 0, 1, 1, 0, 0);
    }

    private static void allAfterRefusedCalls() {
        CrowningSeats office = testWithRules(23, ALL);
        seatInOneRow(office, 2, 2);
        office.guest(8, 0, 0, 1, 30, 1);
        office.gone(2, true);
        office.gone(0, false);
        office.bar(0, 0, true);
        office.bar(0, 1, false);
        office.row(3, 0, 20);
        read(office, "?");
        office.morning(0, 0);
        dueAll(office, 2, 0, 1, 0, 2, 2, 2);
    }

    /** Those of the order are told as all is now, those who sit as it was in the seating. */
    private static void allNowAndThen() {
        CrowningSeats office = testWithRules(23, ALL);
        seatInOneRow(office, 2, 2, 2);
        office.gone(0, true);
        join(office, 2, 1000);
        addRows(office, 4);
        dueAll(office, 4, 1, 2, 0, 3, 3, 3);
        read(office, "");
        dueAll(office, 4, 1, 2, 0, 0, 3, 3);
        office.seat(false);
        dueAll(office, 4, 1, 2, 0, 0, 0, 0);
    }

    private static void allWhoSee() {
        CrowningSeats office = testWithRules(23, "A GUEST who sits SEES, if nobody HIDES THE STAGE");
        joinWithEye(office, 4, 30);
        joinWithEye(office, 4, 40);
        office.guest(0, 0, 0, 4, 40, 1);
        office.row(4, 0, 40);
        office.row(4, 0, 40);
        office.seat(false);
        office.set(30, 1, 5);
        due("the head at the line", office.all(6), 2);
        office.set(29, 1, 5);
        due("the head above it", office.all(6), 1);
        due("who sit, all the same", office.all(5), 2);
    }

    private static void allForOthers() {
        CrowningSeats office = testWithRules(23, "NONE for others.");
        seatInOneRow(office, 2, 2);
        for (int what : new int[] {LOW, -2, -1, 7, 8, HIGH}) {
            due("all(" + what + ")", office.all(what), NONE);
        }
    }
}
