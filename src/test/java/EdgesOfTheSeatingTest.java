/** Promises 13 to 17, sentence by sentence where an edge is named: the seating, and where everyone sits in it. */
public final class EdgesOfTheSeatingTest extends SentenceTests {
    private static final String MADE = "THE SEATING is made (anew: false: as if there had been none): its cost.";
    private static final String LEFT_OUT_OR_SITS =
        "each GUEST of THE ORDER, one behind the other, is LEFT OUT, or sits in a ROW";
    private static final String WITHIN = "All lies within the ROW.";
    private static final String NO_LESSER_ROW = "none in a lesser ROW than one who is ahead";
    private static final String SIDE_BY_SIDE = "in one ROW they sit from PLACE 0 on, side by side, but FREE (1 .. 4; 1 at"
        + " first) PLACES stay EMPTY between two side by side who have a BAR.";
    private static final String COSTS = "It costs the WORTH of each who is LEFT OUT, and EMPTY (0 .. 1000; 5 at first) for"
        + " each such BAR.";
    private static final String THE_FIRST = "THE SEATING: the least cost; of several the first: GUEST by GUEST of THE ORDER"
        + " that with the lesser ROW (LEFT OUT counts as 6).";
    private static final String FEWEST = "THE SEATING ANEW: the least cost; of several that in which the fewest GUESTS of THE"
        + " ORDER sit elsewhere than in the SEATING ahead";
    private static final String ELSEWHERE = "(another ROW, another first PLACE, LEFT OUT or not; one who was not in it counts"
        + " as LEFT OUT there)";
    private static final String MOVED = "How many GUESTS of THE ORDER, as it was then, sat elsewhere in the latest SEATING"
        + " than in the one ahead of it";
    private static final String NONE_AHEAD = "(without one: as if all had been LEFT OUT)";
    private static final String SITS = "0 the ROW (NONE: LEFT OUT), 1 the first PLACE, 2 the last one (NONE without).";
    private static final String NOT_IN_IT = "-2 if there is none such, they were not in THE ORDER then, there is no SEATING,"
        + " or for others.";
    private static final String AT = "Who sits at a PLACE of a ROW in it; NONE if nobody, or there is none such.";
    private static final String SPARE = "How many PLACES of a ROW have nobody in it (EMPTY ones too)";
    private static final String NO_SUCH_ROW = "NONE if there is none such (as it was then).";

    public static void main(String[] args) {
        seat();
        seatWithBars();
        seatTheFirstOfSeveral();
        seatAnew();
        moved();
        sits();
        at();
        spare();
        finish(13, 17);
    }

    // Promise 13.

    private static void seat() {
        seatNobody();
        seatNobodyOfTheOrder();
        seatWithoutRows();
        seatFewerThanBefore();
        seatAsManyAsCanBe();
        oneAsWideAsTheRow();
        oneWiderThanTheRow();
        theRowIsFullToTheLastPlace();
        nobodySitsInALesserRow();
    }

    private static void seatNobody() {
        CrowningSeats office = test(13, MADE);
        due("seat(false), a new office", office.seat(false), 0);
        due("seat(true)", office.seat(true), 0);
        addRows(office, 4, 40);
        due("seat(false) with rows", office.seat(false), 0);
        due("all(5)", office.all(5), 0);
        due("spare(1)", office.spare(1), 40);
    }

    private static void seatNobodyOfTheOrder() {
        CrowningSeats office = test(13, LEFT_OUT_OR_SITS);
        addRows(office, 4);
        office.guest(0, 0, 0, 1, 30, 1000);
        office.guest(1, 0, 0, 1, 30, 1000);
        due("no rules: nobody is left out", office.seat(false), 0);
        read(office, "b;");
        office.gone(1, true);
        due("one is gone, the other's kind not in the text", office.seat(false), 0);
        due("all(5)", office.all(5), 0);
    }

    private static void seatWithoutRows() {
        CrowningSeats office = testWithRules(13, LEFT_OUT_OR_SITS);
        joinAll(office, 32, 1, 1000);
        due("seat(false)", office.seat(false), 32000);
        due("seat(true)", office.seat(true), 32000);
        dueOut(office, 0);
        dueOut(office, 31);
        due("all(5)", office.all(5), 0);
    }

    private static void seatFewerThanBefore() {
        CrowningSeats office = testWithRules(13, LEFT_OUT_OR_SITS);
        joinAll(office, 32, 5, 10);
        due("32 without rows", office.seat(false), 320);
        office.gone(31, true);
        due("31 without rows", office.seat(false), 310);
        addRows(office, 4, 4);
        due("31 too wide for the rows", office.seat(true), 310);
        for (int guest = 0; guest < 31; guest++) {
            office.gone(guest, true);
        }
        due("nobody", office.seat(true), 0);
        office.gone(30, false);
        due("one alone", office.seat(true), 10);
    }

    private static void seatAsManyAsCanBe() {
        CrowningSeats office = testWithRules(13, LEFT_OUT_OR_SITS);
        joinAll(office, 32, 6, 1000);
        addRows(office, 40, 40, 40, 40, 40, 40);
        due("seat(false)", office.seat(false), 0);
        dueSpot(office, 0, 0, 0);
        dueSpot(office, 5, 0, 30);
        dueSpot(office, 6, 1, 0);
        dueSpot(office, 31, 5, 6);
        due("all(5)", office.all(5), 32);
    }

    private static void oneAsWideAsTheRow() {
        CrowningSeats office = testWithRules(13, WITHIN);
        join(office, 4, 7);
        addRows(office, 4);
        due("4 of 4 places", office.seat(false), 0);
        dueSpot(office, 0, 0, 0);
    }

    private static void oneWiderThanTheRow() {
        CrowningSeats office = testWithRules(13, WITHIN);
        join(office, 5, 7);
        addRows(office, 4, 4, 4, 4, 4, 4);
        due("5 of 4 places", office.seat(false), 7);
        dueOut(office, 0);
    }

    private static void theRowIsFullToTheLastPlace() {
        CrowningSeats office = testWithRules(13, WITHIN);
        joinAll(office, 6, 6, 1000);
        join(office, 4, 1000);
        addRows(office, 40);
        due("40 of 40 places", office.seat(false), 0);
        dueSpot(office, 6, 0, 36);
        join(office, 1, 3);
        due("one place too few", office.seat(false), 3);
        dueOut(office, 7);
        dueSpot(office, 6, 0, 36);
    }

    private static void nobodySitsInALesserRow() {
        CrowningSeats office = testWithRules(13, NO_LESSER_ROW);
        join(office, 6, 9);
        join(office, 4, 3);
        addRows(office, 4, 6);
        due("the one ahead fills the row behind", office.seat(false), 3);
        dueSpot(office, 0, 1, 0);
        dueOut(office, 1);
        office = testWithRules(13, NO_LESSER_ROW);
        join(office, 6, 3);
        join(office, 4, 9);
        addRows(office, 4, 6);
        due("the one ahead is left out instead", office.seat(false), 3);
        dueOut(office, 0);
        dueSpot(office, 1, 0, 0);
        office.gone(0, true);
        office.gone(0, false);
        join(office, 6, 1);
        due("who is left out shuts no row", office.seat(false), 3);
        dueSpot(office, 1, 0, 0);
        dueSpot(office, 2, 1, 0);
    }

    private static void seatWithBars() {
        for (int free = 1; free <= 4; free++) {
            freePlacesJustFit(free);
            freePlacesDoNotFit(free);
        }
        aBarNotSideBySide();
        sideBySideWithOneLeftOutBetween();
        aBarWithTheLastOfTheRowAhead();
        eachBarCosts();
        emptyThatCostsNothing();
        emptyAsDearAsOneLeftOut();
        emptyDearerThanOneLeftOut();
        theMostOfBars();
        aBarTakenOff();
        aBarTakenOffBehindASeating();
    }

    private static void freePlacesJustFit(int free) {
        CrowningSeats office = testWithRules(13, SIDE_BY_SIDE);
        joinAll(office, 2, 2, 100);
        office.bar(1, 0, true);
        addRows(office, 4 + free);
        office.set(60, free, 7);
        due("seat(false), FREE " + free, office.seat(false), 7);
        dueSpot(office, 0, 0, 0);
        dueSpot(office, 1, 0, 2 + free);
        due("the last place", office.sits(1, 2), 3 + free);
    }

    private static void freePlacesDoNotFit(int free) {
        CrowningSeats office = testWithRules(13, WITHIN);
        joinAll(office, 2, 2, 100);
        office.bar(1, 0, true);
        addRows(office, 3 + free);
        office.set(60, free, 7);
        due("seat(false), FREE " + free, office.seat(false), 100);
        dueSpot(office, 0, 0, 0);
        dueOut(office, 1);
    }

    private static void aBarNotSideBySide() {
        CrowningSeats office = testWithRules(13, SIDE_BY_SIDE);
        joinAll(office, 3, 1, 100);
        office.bar(0, 2, true);
        addRows(office, 4);
        due("one sits between", office.seat(false), 0);
        dueSpot(office, 2, 0, 2);
    }

    private static void sideBySideWithOneLeftOutBetween() {
        CrowningSeats office = testWithRules(13, SIDE_BY_SIDE);
        join(office, 1, 100);
        join(office, 5, 1);
        join(office, 1, 100);
        office.bar(0, 2, true);
        addRows(office, 4);
        due("seat(false)", office.seat(false), 6);
        dueSpot(office, 0, 0, 0);
        dueOut(office, 1);
        dueSpot(office, 2, 0, 2);
    }

    private static void aBarWithTheLastOfTheRowAhead() {
        CrowningSeats office = testWithRules(13, SIDE_BY_SIDE);
        joinAll(office, 2, 4, 100);
        office.bar(0, 1, true);
        addRows(office, 4, 4);
        due("seat(false)", office.seat(false), 0);
        dueSpot(office, 0, 0, 0);
        dueSpot(office, 1, 1, 0);
    }

    private static void eachBarCosts() {
        CrowningSeats office = testWithRules(13, COSTS);
        joinAll(office, 20, 1, 1000);
        for (int i = 1; i < 20; i++) {
            office.bar(i - 1, i, true);
        }
        addRows(office, 40);
        due("19 bars", office.seat(false), 95);
        dueSpot(office, 19, 0, 38);
        join(office, 1, 1000);
        office.bar(19, 20, true);
        // 41 places would be needed; who is left out from the middle saves two bars, and the last such one is the first.
        due("one is left out, and 18 bars", office.seat(false), 1090);
        dueSpot(office, 18, 0, 36);
        dueOut(office, 19);
        dueSpot(office, 20, 0, 37);
    }

    private static void emptyThatCostsNothing() {
        CrowningSeats office = testWithRules(13, COSTS);
        joinAll(office, 2, 1, 1);
        office.bar(0, 1, true);
        addRows(office, 4);
        office.set(60, 2, 0);
        due("EMPTY 0", office.seat(false), 0);
        dueSpot(office, 1, 0, 3);
    }

    private static void emptyAsDearAsOneLeftOut() {
        CrowningSeats office = testWithRules(13, THE_FIRST);
        joinAll(office, 2, 1, 1000);
        office.bar(0, 1, true);
        addRows(office, 4);
        office.set(60, 1, 1000);
        due("both sit, the first of three ways", office.seat(false), 1000);
        dueSpot(office, 0, 0, 0);
        dueSpot(office, 1, 0, 2);
    }

    private static void emptyDearerThanOneLeftOut() {
        CrowningSeats office = testWithRules(13, COSTS);
        joinAll(office, 2, 1, 999);
        office.bar(0, 1, true);
        addRows(office, 4);
        office.set(60, 1, 1000);
        due("one is left out", office.seat(false), 999);
        dueSpot(office, 0, 0, 0);
        dueOut(office, 1);
    }

    /** Each of 32 has a bar with the next one; where another row begins, none is paid for. */
    private static void theMostOfBars() {
        CrowningSeats office = testWithRules(13, COSTS);
        joinAll(office, 32, 1, 1000);
        for (int i = 1; i < 32; i++) {
            office.bar(i - 1, i, true);
        }
        addRows(office, 40, 40, 40, 40, 40, 40);
        office.set(60, 4, 1);
        due("31 bars, of which 5 are parted by rows", office.seat(false), 26);
        due("all(5)", office.all(5), 32);
    }

    private static void aBarTakenOff() {
        CrowningSeats office = testWithRules(13, SIDE_BY_SIDE);
        joinAll(office, 2, 1, 100);
        office.bar(0, 1, true);
        office.bar(1, 0, false);
        addRows(office, 4);
        due("seat(false)", office.seat(false), 0);
        dueSpot(office, 1, 0, 1);
    }

    private static void aBarTakenOffBehindASeating() {
        CrowningSeats office = testWithRules(13, SIDE_BY_SIDE);
        joinAll(office, 3, 1, 100);
        office.bar(0, 1, true);
        addRows(office, 4);
        due("seat(false) with it", office.seat(false), 5);
        dueSpot(office, 1, 0, 2);
        dueSpot(office, 2, 0, 3);
        office.bar(0, 1, false);
        due("seat(false) without", office.seat(false), 0);
        dueSpot(office, 1, 0, 1);
        dueSpot(office, 2, 0, 2);
    }

    private static void seatTheFirstOfSeveral() {
        theLeastRow();
        theLastRowIsAheadOfLeftOut();
        guestByGuest();
        theFirstWithOneLeftOut();
        theLeastCostIsAheadOfTheFirst();
    }

    private static void theLeastRow() {
        CrowningSeats office = testWithRules(13, THE_FIRST);
        join(office, 1, 1);
        addRows(office, 4, 4, 4, 4, 4, 4);
        due("seat(false)", office.seat(false), 0);
        dueSpot(office, 0, 0, 0);
    }

    private static void theLastRowIsAheadOfLeftOut() {
        CrowningSeats office = testWithRules(13, THE_FIRST);
        joinAll(office, 2, 5, 7);
        addRows(office, 4, 4, 4, 4, 4, 5);
        due("one of two alike", office.seat(false), 7);
        dueSpot(office, 0, 5, 0);
        dueOut(office, 1);
    }

    private static void guestByGuest() {
        CrowningSeats office = testWithRules(13, THE_FIRST);
        joinAll(office, 3, 2, 7);
        addRows(office, 4, 4);
        due("seat(false)", office.seat(false), 0);
        dueSpot(office, 0, 0, 0);
        dueSpot(office, 1, 0, 2);
        dueSpot(office, 2, 1, 0);
    }

    private static void theFirstWithOneLeftOut() {
        CrowningSeats office = testWithRules(13, THE_FIRST);
        joinAll(office, 3, 2, 7);
        addRows(office, 4);
        due("two of three alike", office.seat(false), 7);
        dueSpot(office, 0, 0, 0);
        dueSpot(office, 1, 0, 2);
        dueOut(office, 2);
    }

    private static void theLeastCostIsAheadOfTheFirst() {
        CrowningSeats office = testWithRules(13, THE_FIRST);
        joinAll(office, 3, 2, 7);
        join(office, 2, 8);
        addRows(office, 4);
        due("seat(false)", office.seat(false), 14);
        dueSpot(office, 0, 0, 0);
        dueOut(office, 1);
        dueOut(office, 2);
        dueSpot(office, 3, 0, 2);
    }

    private static void seatAnew() {
        anewTheRowIsKept();
        anewTheFirstPlaceIsKept();
        anewLeftOutIsKept();
        anewWhoWasNotInIt();
        anewWhoSatInAnOlderOne();
        anewWithoutOneAhead();
        anewBehindOneOfNobody();
        anewTheFirstLikewise();
        anewTheLeastCost();
        anewTheLeastCostThoughAllMove();
        notAnew();
    }

    private static void anewTheRowIsKept() {
        CrowningSeats office = testWithRules(13, ELSEWHERE);
        join(office, 4, 5);
        join(office, 4, 5);
        addRows(office, 4, 4);
        office.seat(false);
        office.gone(0, true);
        due("seat(true)", office.seat(true), 0);
        dueSpot(office, 1, 1, 0);
    }

    /** One of two new ones fits in: the one ahead would shift all others, the one behind shifts nobody. */
    private static void anewTheFirstPlaceIsKept() {
        CrowningSeats office = test(13, ELSEWHERE);
        read(office, "a;b;c;");
        office.guest(1, 0, 0, 2, 40, 1000);
        office.guest(1, 0, 0, 2, 40, 1000);
        addRows(office, 5);
        office.seat(false);
        office.guest(0, 0, 0, 1, 40, 3);
        office.guest(2, 0, 0, 1, 40, 3);
        due("seat(true)", office.seat(true), 3);
        dueSpot(office, 0, 0, 0);
        dueSpot(office, 1, 0, 2);
        dueOut(office, 2);
        dueSpot(office, 3, 0, 4);
        due("not anew the one ahead sits", office.seat(false), 3);
        dueSpot(office, 2, 0, 0);
        dueOut(office, 3);
    }

    private static void anewLeftOutIsKept() {
        CrowningSeats office = testWithRules(13, ELSEWHERE);
        joinAll(office, 3, 2, 5);
        office.bar(0, 1, true);
        office.bar(0, 2, true);
        addRows(office, 4);
        due("the first one fits beside none", office.seat(false), 5);
        dueOut(office, 0);
        office.bar(0, 1, false);
        office.bar(0, 2, false);
        due("seat(true)", office.seat(true), 5);
        dueOut(office, 0);
        dueSpot(office, 1, 0, 0);
        dueSpot(office, 2, 0, 2);
    }

    private static void anewWhoWasNotInIt() {
        CrowningSeats office = test(13, ELSEWHERE);
        read(office, "a;b;");
        office.guest(1, 0, 0, 4, 40, 5);
        addRows(office, 4);
        office.seat(false);
        office.guest(0, 0, 0, 4, 40, 5);
        due("who was there stays, the new one is left out", office.seat(true), 5);
        dueSpot(office, 0, 0, 0);
        dueOut(office, 1);
    }

    private static void anewWhoSatInAnOlderOne() {
        CrowningSeats office = testWithRules(13, ELSEWHERE);
        join(office, 4, 5);
        addRows(office, 4);
        office.seat(false);
        office.gone(0, true);
        join(office, 4, 5);
        office.seat(false);
        office.gone(0, false);
        due("the one ahead alone counts", office.seat(true), 5);
        dueOut(office, 0);
        dueSpot(office, 1, 0, 0);
    }

    private static void anewWithoutOneAhead() {
        CrowningSeats office = testWithRules(13, ELSEWHERE);
        joinAll(office, 2, 2, 5);
        join(office, 4, 10);
        addRows(office, 4);
        due("one comes in rather than two", office.seat(true), 10);
        dueOut(office, 0);
        dueOut(office, 1);
        dueSpot(office, 2, 0, 0);
    }

    private static void anewBehindOneOfNobody() {
        CrowningSeats office = testWithRules(13, ELSEWHERE);
        office.seat(true);
        joinAll(office, 2, 2, 5);
        join(office, 4, 10);
        addRows(office, 4);
        due("one comes in rather than two", office.seat(true), 10);
        dueOut(office, 0);
        dueSpot(office, 2, 0, 0);
    }

    private static void anewTheFirstLikewise() {
        CrowningSeats office = testWithRules(13, "of several the first, likewise.");
        joinAll(office, 2, 4, 5);
        addRows(office, 4);
        due("one of two alike", office.seat(true), 5);
        dueSpot(office, 0, 0, 0);
        dueOut(office, 1);
        office = testWithRules(13, "of several the first, likewise.");
        join(office, 4, 5);
        addRows(office, 4, 4, 4, 4, 4, 4);
        due("one of six rows alike", office.seat(true), 0);
        dueSpot(office, 0, 0, 0);
    }

    private static void anewTheLeastCost() {
        CrowningSeats office = testWithRules(13, FEWEST);
        joinAll(office, 2, 2, 5);
        join(office, 4, 9);
        addRows(office, 4);
        office.gone(1, true);
        office.seat(false);
        dueSpot(office, 2, 0, 0);
        office.gone(1, false);
        due("the least cost, though three move", office.seat(true), 9);
        dueSpot(office, 0, 0, 0);
        dueSpot(office, 1, 0, 2);
        dueOut(office, 2);
    }

    private static void anewTheLeastCostThoughAllMove() {
        CrowningSeats office = testWithRules(13, FEWEST);
        join(office, 1, 1);
        joinAll(office, 31, 1, 1);
        office.gone(0, true);
        addRows(office, 40);
        office.seat(false);
        dueSpot(office, 31, 0, 30);
        office.gone(0, false);
        due("32 move for a cost of 1", office.seat(true), 0);
        dueSpot(office, 0, 0, 0);
        dueSpot(office, 31, 0, 31);
        due("moved()", office.moved(), 32);
    }

    private static void notAnew() {
        CrowningSeats office = testWithRules(13, MADE);
        join(office, 4, 5);
        join(office, 4, 5);
        addRows(office, 4, 4);
        office.seat(false);
        office.gone(0, true);
        due("seat(false)", office.seat(false), 0);
        dueSpot(office, 1, 0, 0);
    }

    // Promise 14.

    private static void moved() {
        movedWithoutASeating();
        movedInTheFirst();
        movedInTheFirstOfNobody();
        movedByNobody();
        movedByAll();
        movedAnotherRow();
        movedAnotherPlace();
        movedInAndOut();
        movedNotByThoseWhoAreGone();
        movedAsItWasThen();
        movedNotAnew();
    }

    private static void movedWithoutASeating() {
        CrowningSeats office = testWithRules(14, "NONE without a SEATING.");
        due("moved()", office.moved(), NONE);
        join(office, 1, 1);
        addRows(office, 4);
        due("moved() with a guest and a row", office.moved(), NONE);
    }

    private static void movedInTheFirst() {
        for (boolean anew : new boolean[] {false, true}) {
            CrowningSeats office = testWithRules(14, NONE_AHEAD);
            joinAll(office, 3, 2, 5);
            addRows(office, 4);
            office.seat(anew);
            due("who sit, seat(" + anew + ")", office.moved(), 2);
        }
    }

    private static void movedInTheFirstOfNobody() {
        CrowningSeats office = testWithRules(14, NONE_AHEAD);
        joinAll(office, 32, 1, 1);
        office.seat(false);
        due("all are left out", office.moved(), 0);
        office = test(14, NONE_AHEAD);
        office.seat(false);
        due("nobody is in it", office.moved(), 0);
    }

    private static void movedByNobody() {
        CrowningSeats office = testWithRules(14, MOVED);
        joinAll(office, 32, 6, 1000);
        addRows(office, 40, 40, 40);
        office.seat(false);
        office.seat(true);
        due("anew, as it was", office.moved(), 0);
        office.seat(false);
        due("not anew, as it was", office.moved(), 0);
    }

    private static void movedByAll() {
        CrowningSeats office = testWithRules(14, MOVED);
        joinAll(office, 32, 1, 1000);
        office.seat(false);
        addRows(office, 40);
        office.seat(true);
        due("all come in", office.moved(), 32);
    }

    private static void movedAnotherRow() {
        CrowningSeats office = testWithRules(14, ELSEWHERE);
        join(office, 4, 5);
        join(office, 4, 5);
        addRows(office, 4, 4);
        office.seat(false);
        office.gone(0, true);
        office.seat(false);
        due("from row 1 to row 0, both at place 0", office.moved(), 1);
    }

    private static void movedAnotherPlace() {
        CrowningSeats office = testWithRules(14, ELSEWHERE);
        join(office, 1, 5);
        join(office, 1, 5);
        addRows(office, 4);
        office.seat(false);
        office.gone(0, true);
        office.seat(true);
        due("from place 1 to place 0", office.moved(), 1);
    }

    private static void movedInAndOut() {
        CrowningSeats office = test(14, ELSEWHERE);
        office.guest(0, 0, 0, 4, 40, 5);
        office.guest(1, 0, 0, 4, 40, 6);
        read(office, "a,b;");
        addRows(office, 4);
        office.seat(false);
        office.guest(2, 0, 0, 4, 40, 7);
        read(office, "a,b,c;");
        due("the third one alone sits", office.seat(true), 11);
        due("one goes out, one who was not in it comes in", office.moved(), 2);
    }

    private static void movedNotByThoseWhoAreGone() {
        CrowningSeats office = testWithRules(14, MOVED);
        joinAll(office, 2, 1, 5);
        addRows(office, 4);
        office.seat(false);
        office.gone(1, true);
        office.seat(true);
        due("who is gone is not counted", office.moved(), 0);
        office.gone(1, false);
        office.seat(true);
        due("who comes after all is", office.moved(), 1);
    }

    private static void movedAsItWasThen() {
        CrowningSeats office = testWithRules(14, MOVED);
        joinAll(office, 2, 1, 5);
        addRows(office, 4);
        office.seat(false);
        office.gone(0, true);
        join(office, 1, 5);
        read(office, "");
        due("guests and rules of later change nothing", office.moved(), 2);
    }

    private static void movedNotAnew() {
        CrowningSeats office = testWithRules(14, MOVED);
        joinAll(office, 3, 1, 5);
        addRows(office, 4);
        office.seat(false);
        office.gone(2, true);
        join(office, 1, 5);
        office.seat(false);
        due("the new one alone sits elsewhere", office.moved(), 1);
    }

    // Promise 15.

    private static void sits() {
        sitsAtTheEnds();
        sitsLeftOut();
        sitsNoneSuch();
        sitsNotInTheOrderThen();
        sitsWithoutASeating();
        sitsForOthers();
        sitsAsAllWasThen();
    }

    private static void sitsAtTheEnds() {
        CrowningSeats office = testWithRules(15, SITS);
        join(office, 1, 1000);
        joinAll(office, 4, 4, 1000);
        joinAll(office, 6, 6, 1000);
        join(office, 4, 1000);
        addRows(office, 4, 4, 4, 4, 4, 40);
        due("all sit, with just the last row for the wide ones", office.seat(false), 0);
        due("sits(0, 0)", office.sits(0, 0), 0);
        due("sits(0, 1)", office.sits(0, 1), 0);
        due("sits(0, 2) of one place", office.sits(0, 2), 0);
        due("sits(11, 0)", office.sits(11, 0), 5);
        due("sits(11, 1)", office.sits(11, 1), 36);
        due("sits(11, 2)", office.sits(11, 2), 39);
    }

    private static void sitsLeftOut() {
        CrowningSeats office = testWithRules(15, SITS);
        join(office, 5, 1);
        addRows(office, 4);
        office.seat(false);
        for (int what = 0; what <= 2; what++) {
            due("sits(0, " + what + ")", office.sits(0, what), NONE);
        }
    }

    private static void sitsNoneSuch() {
        CrowningSeats office = testWithRules(15, NOT_IN_IT);
        joinAll(office, 2, 1, 1);
        addRows(office, 4);
        office.seat(false);
        for (int guest : new int[] {LOW, -2, -1, 2, 31, 32, 33, HIGH}) {
            for (int what = 0; what <= 2; what++) {
                due("sits(" + guest + ", " + what + ")", office.sits(guest, what), -2);
            }
        }
    }

    private static void sitsNotInTheOrderThen() {
        CrowningSeats office = test(15, NOT_IN_IT);
        read(office, "a;");
        office.guest(0, 0, 0, 1, 40, 1);
        office.guest(1, 0, 0, 1, 40, 1);
        office.gone(0, true);
        addRows(office, 4);
        office.seat(false);
        join(office, 1, 1);
        office.gone(0, false);
        read(office, "a,b;");
        for (int what = 0; what <= 2; what++) {
            due("gone then", office.sits(0, what), -2);
            due("a kind that was not in the text", office.sits(1, what), -2);
            due("come later", office.sits(2, what), -2);
        }
        office.seat(false);
        due("in the next one", office.sits(2, 1), 2);
    }

    private static void sitsWithoutASeating() {
        CrowningSeats office = testWithRules(15, NOT_IN_IT);
        join(office, 1, 1);
        addRows(office, 4);
        for (int what = -1; what <= 3; what++) {
            due("sits(0, " + what + ")", office.sits(0, what), -2);
        }
    }

    private static void sitsForOthers() {
        CrowningSeats office = testWithRules(15, NOT_IN_IT);
        join(office, 1, 1);
        join(office, 5, 1);
        addRows(office, 4);
        office.seat(false);
        for (int what : new int[] {LOW, -2, -1, 3, 4, HIGH}) {
            due("of one who sits, what " + what, office.sits(0, what), -2);
            due("of one left out, what " + what, office.sits(1, what), -2);
        }
    }

    private static void sitsAsAllWasThen() {
        CrowningSeats office = testWithRules(15, "Of a GUEST in the latest SEATING (as all was then)");
        joinAll(office, 2, 1, 1);
        office.bar(0, 1, true);
        join(office, 5, 1);
        addRows(office, 4);
        office.set(60, 2, 0);
        office.seat(false);
        office.gone(1, true);
        office.bar(0, 1, false);
        addRows(office, 40);
        office.set(60, 1, 0);
        read(office, "");
        dueSpot(office, 0, 0, 0);
        dueSpot(office, 1, 0, 3);
        dueOut(office, 2);
    }

    // Promise 16.

    private static void at() {
        atTheEndsOfARow();
        atNoneSuch();
        atInAFullHouse();
        atEmptyPlaces();
        atWithoutASeating();
        atAsItWasThen();
    }

    private static void atTheEndsOfARow() {
        CrowningSeats office = testWithRules(16, AT);
        joinAll(office, 2, 2, 1000);
        joinAll(office, 2, 3, 1000);
        addRows(office, 4, 6);
        office.seat(false);
        int[][] due = {{NONE, 0, 0, 1, 1, NONE, NONE}, {NONE, 2, 2, 2, 3, 3, 3, NONE}};
        for (int row = 0; row < due.length; row++) {
            for (int place = -1; place < due[row].length - 1; place++) {
                due("at(" + row + ", " + place + ")", office.at(row, place), due[row][place + 1]);
            }
        }
    }

    private static void atNoneSuch() {
        CrowningSeats office = testWithRules(16, AT);
        joinAll(office, 6, 4, 1000);
        addRows(office, 4, 4, 4, 4, 4, 4);
        office.seat(false);
        due("at(5, 3)", office.at(5, 3), 5);
        for (int number : new int[] {LOW, -2, -1, 6, 40, HIGH}) {
            due("row " + number, office.at(number, 0), NONE);
            due("place " + number, office.at(0, number), NONE);
            due("both " + number, office.at(number, number), NONE);
        }
    }

    private static void atInAFullHouse() {
        CrowningSeats office = testWithRules(16, AT);
        joinAll(office, 32, 1, 1000);
        addRows(office, 4, 40);
        office.seat(false);
        due("at(0, 0)", office.at(0, 0), 0);
        due("at(1, 27)", office.at(1, 27), 31);
        due("at(1, 28)", office.at(1, 28), NONE);
        due("at(1, 39)", office.at(1, 39), NONE);
        due("at(2, 0)", office.at(2, 0), NONE);
    }

    private static void atEmptyPlaces() {
        CrowningSeats office = testWithRules(16, AT);
        joinAll(office, 2, 1, 1000);
        office.bar(0, 1, true);
        addRows(office, 7);
        office.set(60, 4, 0);
        office.seat(false);
        int[] due = {0, NONE, NONE, NONE, NONE, 1, NONE, NONE};
        for (int place = 0; place < due.length; place++) {
            due("at(0, " + place + ")", office.at(0, place), due[place]);
        }
    }

    private static void atWithoutASeating() {
        CrowningSeats office = testWithRules(16, AT);
        join(office, 1, 1);
        due("no row", office.at(0, 0), NONE);
        addRows(office, 4);
        due("no seating", office.at(0, 0), NONE);
    }

    private static void atAsItWasThen() {
        CrowningSeats office = testWithRules(16, AT);
        join(office, 4, 1000);
        join(office, 4, 1000);
        addRows(office, 4);
        office.seat(false);
        office.gone(0, true);
        addRows(office, 4);
        due("who is gone now", office.at(0, 3), 0);
        due("a row that came later", office.at(1, 0), NONE);
        office.seat(false);
        due("in the next one", office.at(0, 3), 1);
        due("nobody sits there", office.at(1, 0), NONE);
    }

    // Promise 17.

    private static void spare() {
        spareOfAFullRow();
        spareOfAnEmptyRow();
        spareWithEmptyPlaces();
        spareNoneSuch();
        spareWithoutASeating();
        spareAsItWasThen();
    }

    private static void spareOfAFullRow() {
        CrowningSeats office = testWithRules(17, SPARE);
        joinAll(office, 10, 4, 1000);
        join(office, 1, 1000);
        addRows(office, 40, 4);
        office.seat(false);
        due("spare(0)", office.spare(0), 0);
        due("spare(1)", office.spare(1), 3);
    }

    private static void spareOfAnEmptyRow() {
        CrowningSeats office = testWithRules(17, SPARE);
        addRows(office, 4, 40, 4, 40, 4, 40);
        office.seat(false);
        for (int row = 0; row < 6; row++) {
            due("spare(" + row + ")", office.spare(row), row % 2 == 0 ? 4 : 40);
        }
    }

    private static void spareWithEmptyPlaces() {
        CrowningSeats office = testWithRules(17, SPARE);
        joinAll(office, 2, 1, 1000);
        office.bar(0, 1, true);
        addRows(office, 6);
        office.set(60, 4, 0);
        office.seat(false);
        due("the four between", office.spare(0), 4);
    }

    private static void spareNoneSuch() {
        CrowningSeats office = test(17, NO_SUCH_ROW);
        addRows(office, 4, 4);
        office.seat(false);
        for (int row : new int[] {LOW, -2, -1, 2, 5, 6, HIGH}) {
            due("spare(" + row + ")", office.spare(row), NONE);
        }
        addRows(office, 4, 4, 4, 4);
        office.seat(false);
        due("spare(5) of six", office.spare(5), 4);
        due("spare(6) of six", office.spare(6), NONE);
    }

    private static void spareWithoutASeating() {
        CrowningSeats office = test(17, NO_SUCH_ROW);
        addRows(office, 4);
        due("spare(0)", office.spare(0), NONE);
    }

    private static void spareAsItWasThen() {
        CrowningSeats office = testWithRules(17, NO_SUCH_ROW);
        join(office, 4, 1000);
        addRows(office, 10);
        office.seat(false);
        addRows(office, 10);
        office.gone(0, true);
        due("who sat then", office.spare(0), 6);
        due("a row that came later", office.spare(1), NONE);
        office.seat(false);
        due("spare(0) in the next one", office.spare(0), 10);
        due("spare(1) in the next one", office.spare(1), 10);
    }
}
