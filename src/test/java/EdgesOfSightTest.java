/** Promises 18 to 20, sentence by sentence where an edge is named: who hides the stage from whom. */
public final class EdgesOfSightTest extends SentenceTests {
    private static final String LESSER_ROW = "one HIDES it from them who sits in a lesser ROW";
    private static final String MIDDLE = "some of whose PLACES has the middle of theirs in it (from its left end on, without"
        + " its right one)";
    private static final String ABOVE = "whose HEAD (FLOOR, EYE and 5) is above the straight line from their own EYE (with"
        + " their FLOOR) to THE STAGE's height at the rail.";
    private static final String DEEP = "DEEP (20 .. 60) inches behind the one ahead (the first one behind the rail)";
    private static final String HIDDEN = "How many HIDE THE STAGE (as high as it is now) from a GUEST in it";
    private static final String NOT_SITTING = "NONE if they do not sit, or there is none such.";
    private static final String KTH = "The k-th of these (by ROWS, then PLACES); NONE if there is none such.";
    private static final String LEAST = "The least STAGE (0 .. 300) at which nobody HIDES it from a GUEST";
    private static final String NO_STAGE = "NONE if there is none, or they do not sit.";

    public static void main(String[] args) {
        hidden();
        hider();
        stage();
        finish(18, 20);
    }

    /** Two, four places wide each, one behind the other: the first one's eye, floor and depth, then the second one's. */
    private static void behindOneAnother(CrowningSeats office, int... n) {
        joinWithEye(office, 4, n[0]);
        joinWithEye(office, 4, n[3]);
        office.row(4, n[1], n[2]);
        office.row(4, n[4], n[5]);
        office.seat(false);
    }

    private static void dueHidden(CrowningSeats office, int stage, int guest, int want) {
        office.set(stage, 1, 5);
        due("hidden(" + guest + ") with a stage of " + stage, office.hidden(guest), want);
    }

    // Promise 18.

    private static void hidden() {
        hiddenByAHeadAtTheLine();
        hiddenByLessThanAnInch();
        hiddenAtTheLowestAndTheHighestStage();
        hiddenByTheHighestBeforeTheLowest();
        hiddenFarFromTheRail();
        hiddenByNobodyInTheFirstRow();
        hiddenByNobodyInTheSameRow();
        hiddenByTheMiddleAtAnEnd();
        hiddenByTheMiddleOfTheLastPlace();
        hiddenByNobodyOverAnEmptyPlace();
        hiddenByNobodyBesideANarrowRow();
        hiddenByOneOfEachRow();
        hiddenWithTheStageAsItIsNow();
        hiddenOfThoseWhoDoNotSit();
        hiddenOfNoneSuch();
        hiddenAsItWasThen();
    }

    private static void hiddenByAHeadAtTheLine() {
        CrowningSeats office = testWithRules(18, ABOVE);
        behindOneAnother(office, 30, 0, 40, 40, 0, 40);
        dueHidden(office, 30, 1, 0);
        dueHidden(office, 29, 1, 1);
        dueHidden(office, 31, 1, 0);
    }

    /** The head is at 205; the line from 109 is at (109 * 40 + s * 59) / 99: 204.9 .. for 270, 205.5 .. for 271. */
    private static void hiddenByLessThanAnInch() {
        CrowningSeats office = testWithRules(18, ABOVE);
        behindOneAnother(office, 75, 125, 40, 80, 29, 59);
        dueHidden(office, 270, 1, 1);
        dueHidden(office, 271, 1, 0);
    }

    private static void hiddenAtTheLowestAndTheHighestStage() {
        CrowningSeats office = testWithRules(18, ABOVE);
        behindOneAnother(office, 30, 0, 40, 70, 0, 40);
        dueHidden(office, 0, 1, 0);
        office = testWithRules(18, ABOVE);
        behindOneAnother(office, 31, 0, 40, 71, 0, 40);
        dueHidden(office, 0, 1, 1);
        dueHidden(office, 1, 1, 0);
        office = testWithRules(18, ABOVE);
        behindOneAnother(office, 75, 125, 40, 80, 30, 40);
        dueHidden(office, 299, 1, 1);
        dueHidden(office, 300, 1, 0);
        office = testWithRules(18, ABOVE);
        behindOneAnother(office, 76, 125, 40, 80, 30, 40);
        dueHidden(office, 300, 1, 1);
    }

    private static void hiddenByTheHighestBeforeTheLowest() {
        CrowningSeats office = testWithRules(18, ABOVE);
        behindOneAnother(office, 80, 300, 60, 30, 0, 20);
        dueHidden(office, 300, 1, 1);
        office = testWithRules(18, ABOVE);
        behindOneAnother(office, 30, 0, 20, 80, 300, 60);
        dueHidden(office, 0, 1, 0);
    }

    /** 300 and 360 inches from the rail: the line from 150 is at 125 + s / 6 over the fifth row. */
    private static void hiddenFarFromTheRail() {
        CrowningSeats office = testWithRules(18, DEEP);
        for (int i = 0; i < 4; i++) {
            office.row(4, 0, 60);
        }
        office.row(6, 100, 60);
        office.row(6, 100, 60);
        joinWithEye(office, 6, 30);
        joinWithEye(office, 6, 50);
        office.seat(false);
        dueSpot(office, 0, 4, 0);
        dueSpot(office, 1, 5, 0);
        dueHidden(office, 60, 1, 0);
        dueHidden(office, 59, 1, 1);
    }

    private static void hiddenByNobodyInTheFirstRow() {
        CrowningSeats office = testWithRules(18, LESSER_ROW);
        behindOneAnother(office, 30, 0, 20, 80, 300, 60);
        dueHidden(office, 0, 0, 0);
    }

    private static void hiddenByNobodyInTheSameRow() {
        CrowningSeats office = testWithRules(18, LESSER_ROW);
        joinWithEye(office, 1, 80);
        joinWithEye(office, 1, 30);
        joinWithEye(office, 1, 80);
        office.row(4, 300, 20);
        office.seat(false);
        dueHidden(office, 0, 1, 0);
        due("all see", office.all(6), 3);
    }

    /** The middle of two places is an end: of the two before, the right one has it, and the left one has not. */
    private static void hiddenByTheMiddleAtAnEnd() {
        CrowningSeats office = testWithRules(18, MIDDLE);
        joinWithEye(office, 1, 80);
        joinWithEye(office, 3, 30);
        joinWithEye(office, 2, 30);
        joinWithEye(office, 2, 30);
        office.row(4, 0, 20);
        office.row(4, 0, 20);
        office.seat(false);
        dueHidden(office, 32, 2, 1);
        due("the right one", office.hider(2, 0), 1);
        dueHidden(office, 60, 2, 0);
        office = testWithRules(18, MIDDLE);
        joinWithEye(office, 1, 30);
        joinWithEye(office, 3, 80);
        joinWithEye(office, 2, 30);
        joinWithEye(office, 2, 30);
        office.row(4, 0, 20);
        office.row(4, 0, 20);
        office.seat(false);
        dueHidden(office, 60, 2, 1);
        due("the right one", office.hider(2, 0), 1);
        dueHidden(office, 60, 3, 1);
        due("and of the next two", office.hider(3, 0), 1);
    }

    private static void hiddenByTheMiddleOfTheLastPlace() {
        CrowningSeats office = testWithRules(18, MIDDLE);
        for (int width : new int[] {1, 3, 1, 2, 1}) {
            joinWithEye(office, width, 60);
        }
        addRows(office, 4, 4);
        office.seat(false);
        dueHidden(office, 0, 2, 1);
        due("one place behind one place", office.hider(2, 0), 0);
        dueHidden(office, 0, 4, 1);
        due("one place behind the last of three", office.hider(4, 0), 1);
    }

    private static void hiddenByNobodyOverAnEmptyPlace() {
        CrowningSeats office = testWithRules(18, MIDDLE);
        joinWithEye(office, 1, 80);
        joinWithEye(office, 2, 80);
        joinWithEye(office, 3, 30);
        office.bar(0, 1, true);
        office.row(4, 300, 20);
        office.row(4, 0, 20);
        office.seat(false);
        dueSpot(office, 1, 0, 2);
        dueSpot(office, 2, 1, 0);
        dueHidden(office, 0, 2, 0);
    }

    private static void hiddenByNobodyBesideANarrowRow() {
        CrowningSeats office = testWithRules(18, MIDDLE);
        joinWithEye(office, 4, 80);
        joinWithEye(office, 6, 30);
        joinWithEye(office, 1, 30);
        office.row(4, 300, 20);
        office.row(40, 0, 20);
        office.seat(false);
        dueHidden(office, 0, 1, 1);
        dueHidden(office, 0, 2, 0);
        office = testWithRules(18, MIDDLE);
        joinWithEye(office, 4, 80);
        joinWithEye(office, 3, 30);
        joinWithEye(office, 2, 30);
        office.row(4, 300, 20);
        office.row(40, 0, 20);
        office.seat(false);
        // The middle of places 3 and 4 is 4, where the last place before ends.
        dueSpot(office, 2, 1, 3);
        dueHidden(office, 0, 2, 0);
    }

    private static void sixBehindOneAnother(CrowningSeats office) {
        for (int i = 0; i < 6; i++) {
            joinWithEye(office, 4, 60);
            office.row(4, 0, 20);
        }
        office.seat(false);
    }

    private static void hiddenByOneOfEachRow() {
        CrowningSeats office = testWithRules(18, HIDDEN);
        sixBehindOneAnother(office);
        for (int guest = 0; guest < 6; guest++) {
            dueHidden(office, 0, guest, guest);
        }
    }

    /** Over row r of 0 .. 5 the line from 60 in the last row is at s + (60 - s) * (r + 1) / 6. */
    private static void hiddenWithTheStageAsItIsNow() {
        CrowningSeats office = testWithRules(18, HIDDEN);
        sixBehindOneAnother(office);
        dueHidden(office, 65, 5, 5);
        dueHidden(office, 66, 5, 4);
        dueHidden(office, 67, 5, 4);
        dueHidden(office, 68, 5, 3);
        dueHidden(office, 89, 5, 1);
        dueHidden(office, 90, 5, 0);
        dueHidden(office, 300, 5, 0);
        dueHidden(office, 60, 5, 5);
        due("a refused one", office.set(301, 1, 5), false);
        due("changes nothing", office.hidden(5), 5);
    }

    private static void hiddenOfThoseWhoDoNotSit() {
        CrowningSeats office = testWithRules(18, NOT_SITTING);
        join(office, 5, 1);
        join(office, 4, 1);
        office.guest(1, 0, 0, 4, 40, 1);
        office.gone(2, true);
        addRows(office, 4);
        due("without a seating", office.hidden(1), NONE);
        office.seat(false);
        due("left out", office.hidden(0), NONE);
        due("sits", office.hidden(1), 0);
        due("not in the order", office.hidden(2), NONE);
        join(office, 1, 1);
        due("come later", office.hidden(3), NONE);
    }

    private static void hiddenOfNoneSuch() {
        CrowningSeats office = testWithRules(18, NOT_SITTING);
        joinAll(office, 2, 1, 1);
        addRows(office, 4);
        office.seat(false);
        for (int guest : new int[] {LOW, -2, -1, 2, 31, 32, HIGH}) {
            due("hidden(" + guest + ")", office.hidden(guest), NONE);
        }
    }

    private static void hiddenAsItWasThen() {
        CrowningSeats office = testWithRules(18, HIDDEN);
        behindOneAnother(office, 60, 0, 20, 60, 0, 20);
        office.gone(0, true);
        office.gone(1, true);
        read(office, "");
        dueHidden(office, 0, 1, 1);
        office.seat(false);
        dueHidden(office, 0, 1, NONE);
    }

    // Promise 19.

    private static void hider() {
        hiderByRows();
        hiderOutsideTheirCount();
        hiderWhereNobodyHides();
        hiderOfThoseWhoDoNotSit();
    }

    private static void hiderByRows() {
        CrowningSeats office = test(19, KTH);
        read(office, "a by most date;");
        for (int i = 0; i < 6; i++) {
            office.guest(0, i, 0, 4, 60, 1000);
            office.row(4, 0, 20);
        }
        office.set(66, 1, 5);
        office.seat(false);
        // The head at 65 is above the line from 66 to 60 over each row but the first one, where they meet.
        for (int k = 0; k < 4; k++) {
            due("hider(0, " + k + ")", office.hider(0, k), 4 - k);
        }
        due("hider(0, 4)", office.hider(0, 4), NONE);
    }

    private static void hiderOutsideTheirCount() {
        CrowningSeats office = testWithRules(19, KTH);
        sixBehindOneAnother(office);
        office.set(0, 1, 5);
        due("the first", office.hider(5, 0), 0);
        due("the last", office.hider(5, 4), 4);
        for (int k : new int[] {LOW, -2, -1, 5, 6, 32, HIGH}) {
            due("hider(5, " + k + ")", office.hider(5, k), NONE);
        }
    }

    private static void hiderWhereNobodyHides() {
        CrowningSeats office = testWithRules(19, KTH);
        sixBehindOneAnother(office);
        office.set(300, 1, 5);
        for (int k = -1; k <= 1; k++) {
            due("hider(5, " + k + ") with a high stage", office.hider(5, k), NONE);
            due("hider(0, " + k + ") in the first row", office.hider(0, k), NONE);
        }
    }

    private static void hiderOfThoseWhoDoNotSit() {
        CrowningSeats office = testWithRules(19, KTH);
        due("nobody", office.hider(0, 0), NONE);
        sixBehindOneAnother(office);
        join(office, 4, 1);
        office.set(0, 1, 5);
        due("come later", office.hider(6, 0), NONE);
        office.seat(false);
        due("left out", office.hider(6, 0), NONE);
        for (int guest : new int[] {LOW, -1, 7, 32, HIGH}) {
            due("hider(" + guest + ", 0)", office.hider(guest, 0), NONE);
        }
    }

    // Promise 20.

    private static void stage() {
        stageOfTheFirstRow();
        stageAroundTheLeast();
        stageAroundTheMost();
        stageRoundedUp();
        stageForTheHighestOfSeveral();
        stageWhateverItIsNow();
        stageInAFullHouse();
        stageOfThoseWhoDoNotSit();
        stageOfNoneSuch();
    }

    private static void dueStage(String sentence, int want, int... two) {
        CrowningSeats office = testWithRules(20, sentence);
        behindOneAnother(office, two);
        due("stage(1)", office.stage(1), want);
        if (want == NONE) {
            dueHidden(office, 300, 1, 1);
        } else {
            dueHidden(office, want, 1, 0);
        }
        if (want > 0) {
            dueHidden(office, want - 1, 1, 1);
        }
    }

    private static void stageOfTheFirstRow() {
        CrowningSeats office = testWithRules(20, LEAST);
        behindOneAnother(office, 30, 0, 20, 80, 300, 20);
        due("stage(0)", office.stage(0), 0);
    }

    private static void stageAroundTheLeast() {
        dueStage(LEAST, 0, 30, 0, 40, 71, 0, 40);
        dueStage(LEAST, 0, 30, 0, 40, 70, 0, 40);
        dueStage(LEAST, 1, 30, 0, 40, 69, 0, 40);
        dueStage(LEAST, 0, 31, 0, 20, 80, 65, 60);
        dueStage(LEAST, 0, 31, 0, 20, 80, 64, 60);
        dueStage(LEAST, 1, 31, 0, 20, 80, 63, 60);
        dueStage(LEAST, 0, 30, 0, 60, 80, 300, 20);
    }

    private static void stageAroundTheMost() {
        dueStage(LEAST, 299, 75, 125, 40, 80, 31, 40);
        dueStage(LEAST, 300, 75, 125, 40, 80, 30, 40);
        dueStage(NO_STAGE, NONE, 75, 125, 40, 80, 29, 40);
        dueStage(LEAST, 300, 60, 155, 20, 80, 21, 30);
        dueStage(NO_STAGE, NONE, 61, 155, 20, 80, 22, 30);
        dueStage(NO_STAGE, NONE, 80, 300, 60, 30, 0, 20);
    }

    private static void stageRoundedUp() {
        dueStage(LEAST, 34, 45, 0, 20, 80, 20, 60);
        dueStage(LEAST, 35, 46, 0, 20, 80, 20, 60);
        dueStage(LEAST, 36, 47, 0, 20, 80, 20, 60);
        dueStage(LEAST, 38, 48, 0, 20, 80, 20, 60);
    }

    /** Before the third one the second needs a stage of 115, the first one 70; before the second one the first 60. */
    private static void stageForTheHighestOfSeveral() {
        CrowningSeats office = testWithRules(20, LEAST);
        joinWithEye(office, 4, 60);
        joinWithEye(office, 4, 70);
        joinWithEye(office, 4, 55);
        addRows(office, 4, 4, 4);
        office.seat(false);
        due("stage(2)", office.stage(2), 115);
        dueHidden(office, 115, 2, 0);
        dueHidden(office, 114, 2, 1);
        due("stage(1)", office.stage(1), 60);
    }

    private static void stageWhateverItIsNow() {
        CrowningSeats office = testWithRules(20, LEAST);
        behindOneAnother(office, 30, 0, 40, 40, 0, 40);
        for (int now : new int[] {0, 29, 30, 31, 300}) {
            office.set(now, 1, 5);
            due("stage(1) with one of " + now, office.stage(1), 30);
        }
    }

    private static void stageInAFullHouse() {
        CrowningSeats office = testWithRules(20, LEAST);
        joinAll(office, 32, 6, 1000);
        addRows(office, 40, 40, 40, 40, 40, 40);
        office.seat(false);
        dueSpot(office, 31, 5, 6);
        due("in the first row", office.stage(0), 0);
        // All eyes are at 40 and all heads at 45: the one straight before, in the row ahead, needs the highest stage.
        due("in the second row", office.stage(6), 50);
        due("in the last row", office.stage(31), 70);
    }

    private static void stageOfThoseWhoDoNotSit() {
        CrowningSeats office = testWithRules(20, NO_STAGE);
        join(office, 5, 1);
        join(office, 4, 1);
        addRows(office, 4);
        due("without a seating", office.stage(1), NONE);
        office.seat(false);
        due("left out", office.stage(0), NONE);
        due("sits", office.stage(1), 0);
        join(office, 1, 1);
        due("come later", office.stage(2), NONE);
        office.gone(1, true);
        due("as it was then", office.stage(1), 0);
        office.seat(false);
        due("not in the order", office.stage(1), NONE);
    }

    private static void stageOfNoneSuch() {
        CrowningSeats office = testWithRules(20, NO_STAGE);
        due("nobody", office.stage(0), NONE);
        join(office, 4, 1);
        addRows(office, 4);
        office.seat(false);
        for (int guest : new int[] {LOW, -2, -1, 1, 31, 32, HIGH}) {
            due("stage(" + guest + ")", office.stage(guest), NONE);
        }
    }
}
