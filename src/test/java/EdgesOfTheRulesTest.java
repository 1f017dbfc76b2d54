/** Promises 9 to 12, sentence by sentence where an edge is named: the rules' text, its faults, and the order. */
public final class EdgesOfTheRulesTest extends SentenceTests {
    private static final String NO_TEXT = "1 the first byte with which no TEXT goes on";
    private static final String WORDS_WHOLE = "words whole, at their first byte";
    private static final String TOO_SOON = "at the text's length, if it ends too soon";
    private static final String LETTER_AGAIN = "2 a LETTER that is there already, at it.";
    private static final String FIRST_ALONG = "FAULTS, the first along the text";
    private static final String BLANKS = "with blanks (10, 32) between where one likes";
    private static final String LINES = "LINE: LETTER { , LETTER }, or this and by KEY { , KEY }.";

    public static void main(String[] args) {
        rules();
        fault();
        rank();
        ranked();
        finish(9, 12);
    }

    private static void dueLines(int promise, String sentence, String text, int lines) {
        CrowningSeats office = test(promise, sentence);
        due("rules of '" + text + "'", read(office, text), lines);
        due("fault(0) of '" + text + "'", office.fault(0), 0);
        due("fault(1) of '" + text + "'", office.fault(1), NONE);
    }

    private static void dueFault(int promise, String sentence, String text, int kind, int place) {
        CrowningSeats office = test(promise, sentence);
        due("rules of '" + text + "'", read(office, text), NONE);
        due("fault(0) of '" + text + "'", office.fault(0), kind);
        due("fault(1) of '" + text + "'", office.fault(1), place);
    }

    // Promise 9.

    private static void rules() {
        anEmptyTape();
        theTapeGoes();
        theTapeGoesWithAFault();
        theRulesBeforeStay();
        anEmptyTextIsTaken();
        noLinesAndEightLines();
        aTextOf200Bytes();
        blanks();
        noBlanks();
        wordsSideBySide();
        lines();
        keys();
        letters();
    }

    private static void anEmptyTape() {
        CrowningSeats office = test(9, "The tape (it goes) is THE RULES' TEXT: how many LINES");
        due("rules()", office.rules(), 0);
        due("rules() again", office.rules(), 0);
    }

    private static void theTapeGoes() {
        CrowningSeats office = test(9, "The tape (it goes) is THE RULES' TEXT: how many LINES");
        due("rules of 'a;b;'", read(office, "a;b;"), 2);
        due("end(1)", office.end(1), false);
        due("feed", office.feed(0x20202020, 0x20202020, 0x20202020, 0x20202020, 0x20202020), 20);
        due("rules of blanks alone", office.rules(), 0);
    }

    private static void theTapeGoesWithAFault() {
        CrowningSeats office = test(9, "The tape (it goes) is THE RULES' TEXT: how many LINES");
        due("rules of 'a;;'", read(office, "a;;"), NONE);
        due("end(1)", office.end(1), false);
        due("rules of what is left", office.rules(), 0);
    }

    private static void theRulesBeforeStay() {
        for (String text : new String[] {"a;c", "a;c;?", "a,c,a;", "c;c;", "a by most date;a;", "a by most dat;", "?"}) {
            CrowningSeats office = test(9, "NONE with a FAULT (the RULES before stay)");
            office.guest(0, 1, 0, 1, 30, 1);
            office.guest(1, 1, 0, 1, 30, 1);
            office.guest(2, 1, 0, 1, 30, 1);
            office.guest(0, 2, 0, 1, 30, 1);
            read(office, "b;a by least date;");
            due("rules of '" + text + "'", read(office, text), NONE);
            due("all(4)", office.all(4), 3);
            due("ranked(0)", office.ranked(0), 1);
            due("ranked(1)", office.ranked(1), 0);
            due("ranked(2)", office.ranked(2), 3);
            due("who comes now comes by the rules before", office.guest(1, 0, 0, 1, 30, 1), 4);
            due("rank(4)", office.rank(4), 1);
        }
    }

    private static void anEmptyTextIsTaken() {
        for (String text : new String[] {"", " ", "\n"}) {
            CrowningSeats office = testWithRules(9, "THE RULES' TEXT, with blanks (10, 32) between where one likes");
            join(office, 1, 1);
            due("rules of '" + text + "'", read(office, text), 0);
            due("fault(0)", office.fault(0), 0);
            due("nobody is in the order", office.all(4), 0);
        }
    }

    private static void noLinesAndEightLines() {
        dueLines(9, "{ LINE ; }", "", 0);
        dueLines(9, "{ LINE ; }", "a;", 1);
        dueLines(9, "{ LINE ; }", "h;g;f;e;d;c;b;a;", 8);
        dueFault(9, "{ LINE ; }", ";", 1, 0);
        dueFault(9, "{ LINE ; }", "a;b", 1, 3);
        dueFault(9, "{ LINE ; }", "a;;b;", 1, 2);
    }

    private static void aTextOf200Bytes() {
        dueLines(9, "how many LINES", " ".repeat(200), 0);
        dueLines(9, "how many LINES", " ".repeat(198) + "a;", 1);
        dueLines(9, "how many LINES", "a;" + "\n".repeat(198), 1);
        String keys = "a by most age" + ",most age".repeat(20) + ";";
        dueLines(9, "how many LINES", keys + "b;c" + " ".repeat(200 - keys.length() - 4) + ";", 3);
        dueFault(9, "how many LINES", "a;" + " ".repeat(197) + "?", 1, 199);
    }

    private static void blanks() {
        dueLines(9, BLANKS, "a;b by most age,least eye;", 2);
        dueLines(9, BLANKS, " a , c \n;\n\nb  by\nmost \n age\n, least\n\neye ; ", 2);
        dueLines(9, BLANKS, "\na\n;\n", 1);
        dueFault(9, BLANKS, "a by le ast age;", 1, 5);
        dueFault(9, BLANKS, "a b y most age;", 1, 2);
    }

    /** The bytes around 10 and 32, and what else is often taken for a blank. */
    private static void noBlanks() {
        for (char c : new char[] {0, 8, 9, 11, 12, 13, 31, 33, 127, 138, 160}) {
            dueFault(9, BLANKS, "a" + c + ";", 1, 1);
            dueFault(9, BLANKS, "a;" + c, 1, 2);
        }
    }

    private static void wordsSideBySide() {
        String need = "(words side by side need one)";
        dueLines(9, need, "a by least age;", 1);
        dueLines(9, need, "a\nby\nleast\nage;", 1);
        dueFault(9, need, "aby least age;", 1, 0);
        dueFault(9, need, "a byleast age;", 1, 2);
        dueFault(9, need, "a by leastage;", 1, 5);
    }

    private static void lines() {
        dueLines(9, LINES, "a;", 1);
        dueLines(9, LINES, "h,g,f,e,d,c,b,a;", 1);
        dueLines(9, LINES, "h,g,f,e,d,c,b,a by most age;", 1);
        dueFault(9, LINES, "a,;", 1, 2);
        dueFault(9, LINES, ",a;", 1, 0);
        dueFault(9, LINES, "a b;", 1, 2);
        dueFault(9, LINES, "by most age;", 1, 0);
        dueFault(9, LINES, "a most age;", 1, 2);
        dueFault(9, LINES, "a least least age;", 1, 2);
        dueFault(9, LINES, "a by by age;", 1, 5);
        dueFault(9, LINES, "a by;", 1, 4);
        dueFault(9, LINES, "a by most age,;", 1, 14);
        dueFault(9, LINES, "a by most age by most age;", 1, 14);
        dueFault(9, LINES, "a by most age,b;", 1, 14);
    }

    private static void keys() {
        String key = "KEY: least or most, and date, age, worth, width or eye.";
        for (String field : new String[] {"date", "age", "worth", "width", "eye"}) {
            dueLines(9, key, "a by least " + field + ";", 1);
            dueLines(9, key, "a by most " + field + ";", 1);
            dueFault(9, key, "a by " + field + ";", 1, 5);
            dueFault(9, key, "a by most " + field + " " + field + ";", 1, 11 + field.length());
        }
        dueFault(9, key, "a by most;", 1, 9);
        dueFault(9, key, "a by most least age;", 1, 10);
        dueFault(9, key, "a by most kind;", 1, 10);
    }

    private static void letters() {
        String once = "LETTERS a to h, each once in the text.";
        for (char letter = 'a'; letter <= 'h'; letter++) {
            dueLines(9, once, letter + ";", 1);
            dueFault(9, once, letter + "," + letter + ";", 2, 2);
            dueFault(9, once, letter + ";" + letter + ";", 2, 2);
        }
        for (char c : new char[] {'`', 'i', 'z', '{', '@', 'A', 'H', 'I', '0', '7', 'a' + 128}) {
            dueFault(9, once, c + ";", 1, 0);
            dueFault(9, once, "a," + c + ";", 1, 2);
        }
    }

    // Promise 10.

    private static void fault() {
        faultAheadOfAny();
        faultOfTheLatest();
        noFaultBehindATextWithOne();
        faultForAnotherWhat();
        faultAtTheFirstAndTheLastByte();
        faultOfAWord();
        faultOfATextThatEndsTooSoon();
        faultOfALetterAgain();
        theFirstFaultAlongTheText();
    }

    private static void faultAheadOfAny() {
        CrowningSeats office = test(10, "its FAULT (what 0; 0 without, or ahead of any), its place (1; NONE without).");
        due("fault(0)", office.fault(0), 0);
        due("fault(1)", office.fault(1), NONE);
        put(office, "?");
        due("fault(0), as the tape is not read", office.fault(0), 0);
        due("fault(1)", office.fault(1), NONE);
    }

    private static void faultOfTheLatest() {
        CrowningSeats office = test(10, "Of the latest rules(): its FAULT");
        read(office, "a;a;");
        due("fault(0) of 'a;a;'", office.fault(0), 2);
        due("fault(1) of 'a;a;'", office.fault(1), 2);
        due("fault(1) again", office.fault(1), 2);
        read(office, "?");
        due("fault(0) of '?'", office.fault(0), 1);
        due("fault(1) of '?'", office.fault(1), 0);
        office.rules();
        due("fault(0) of nothing", office.fault(0), 0);
        due("fault(1) of nothing", office.fault(1), NONE);
    }

    /** Wherever the text before broke off, and whichever letters it had. */
    private static void noFaultBehindATextWithOne() {
        for (String text : new String[] {"a", "a,", "a by", "a by most", "a by most age", "a by most age,", "a,a", "a;?"}) {
            CrowningSeats office = test(10, "Of the latest rules(): its FAULT");
            read(office, text);
            due("fault(0) of '" + text + "'", office.fault(0) != 0, true);
            due("rules of 'a;b;' behind it", read(office, "a;b;"), 2);
            due("fault(0)", office.fault(0), 0);
            due("fault(1)", office.fault(1), NONE);
        }
    }

    private static void faultForAnotherWhat() {
        CrowningSeats office = test(10, "NONE for another what.");
        for (int what : new int[] {LOW, -2, -1, 2, 3, HIGH}) {
            due("fault(" + what + ") without", office.fault(what), NONE);
        }
        read(office, "a,a;");
        for (int what : new int[] {LOW, -2, -1, 2, 3, HIGH}) {
            due("fault(" + what + ") with one", office.fault(what), NONE);
        }
    }

    private static void faultAtTheFirstAndTheLastByte() {
        dueFault(10, NO_TEXT, "?", 1, 0);
        dueFault(10, NO_TEXT, "? a;", 1, 0);
        dueFault(10, NO_TEXT, " ".repeat(199) + "?", 1, 199);
        dueFault(10, NO_TEXT, " ".repeat(199) + ";", 1, 199);
        dueFault(10, NO_TEXT, "a;b?c;", 1, 3);
        dueFault(10, NO_TEXT, "a by most age?;", 1, 13);
    }

    private static void faultOfAWord() {
        dueFault(10, WORDS_WHOLE, "aa;", 1, 0);
        dueFault(10, WORDS_WHOLE, "a;  bc;", 1, 4);
        dueFault(10, WORDS_WHOLE, "a b;", 1, 2);
        dueFault(10, WORDS_WHOLE, "a bye most age;", 1, 2);
        dueFault(10, WORDS_WHOLE, "a by mos age;", 1, 5);
        dueFault(10, WORDS_WHOLE, "a by mostly age;", 1, 5);
        dueFault(10, WORDS_WHOLE, "a by leasd age;", 1, 5);
        dueFault(10, WORDS_WHOLE, "a by most ages;", 1, 10);
        dueFault(10, WORDS_WHOLE, "a by most wort;", 1, 10);
        dueFault(10, WORDS_WHOLE, "a by most widht;", 1, 10);
        dueFault(10, WORDS_WHOLE, "a by leas", 1, 5);
        dueFault(10, WORDS_WHOLE, " ".repeat(196) + "date", 1, 196);
    }

    private static void faultOfATextThatEndsTooSoon() {
        String whole = "a,b by most age,least eye;";
        int[] wordEnds = {1, 2, 3, 6, 11, 15, 16, 22};
        for (int end : wordEnds) {
            dueFault(10, TOO_SOON, whole.substring(0, end), 1, end);
        }
        dueFault(10, TOO_SOON, "a \n ", 1, 4);
        dueFault(10, TOO_SOON, "a by most age ", 1, 14);
        dueFault(10, TOO_SOON, "a" + " ".repeat(199), 1, 200);
        dueFault(10, TOO_SOON, " ".repeat(199) + "a", 1, 200);
        dueFault(10, TOO_SOON, whole.substring(0, 25), 1, 25);
    }

    private static void faultOfALetterAgain() {
        dueFault(10, LETTER_AGAIN, "a,a;", 2, 2);
        dueFault(10, LETTER_AGAIN, "a;\n a;", 2, 4);
        dueFault(10, LETTER_AGAIN, "a,b,c,d,e,f,g,h,a;", 2, 16);
        dueFault(10, LETTER_AGAIN, "h;g;f;e;d;c;b;a;h;", 2, 16);
        dueFault(10, LETTER_AGAIN, "a by most age;b;c,d,b;", 2, 20);
        dueFault(10, LETTER_AGAIN, "a;" + " ".repeat(197) + "a", 2, 199);
    }

    private static void theFirstFaultAlongTheText() {
        dueFault(10, FIRST_ALONG, "a,a", 2, 2);
        dueFault(10, FIRST_ALONG, "a,a;?", 2, 2);
        dueFault(10, FIRST_ALONG, "a,a?", 2, 2);
        dueFault(10, FIRST_ALONG, "a?,a;", 1, 1);
        dueFault(10, FIRST_ALONG, "a;;a;", 1, 2);
        dueFault(10, FIRST_ALONG, "a;aa;a;", 1, 2);
        dueFault(10, FIRST_ALONG, "a;b;b;a;", 2, 4);
        dueFault(10, FIRST_ALONG, "?;?", 1, 0);
        dueFault(10, FIRST_ALONG, "a a;", 1, 2);
    }

    // Promise 11.

    private static void rank() {
        rankFrom0On();
        rankOfNoneSuch();
        rankOfThoseNotInIt();
        rankWithTheEmptyText();
        rankByLines();
        rankByTheFirstKeyThatDiffers();
        rankByTheKeysOfTheirLine();
        rankByTheLesserNumber();
        rankAtTheEndsOfTheKeys();
    }

    private static void rankFrom0On() {
        CrowningSeats office = test(11, "Which a GUEST is in THE ORDER (from 0 on)");
        joinAll(office, 32, 1, 1);
        read(office, "a;");
        for (int guest = 0; guest < 32; guest++) {
            due("rank(" + guest + ")", office.rank(guest), guest);
        }
    }

    private static void rankOfNoneSuch() {
        CrowningSeats office = testWithRules(11, "NONE if not in it, or there is none such.");
        due("rank(0) of nobody", office.rank(0), NONE);
        joinAll(office, 2, 1, 1);
        for (int guest : new int[] {LOW, -1, 2, 31, 32, HIGH}) {
            due("rank(" + guest + ")", office.rank(guest), NONE);
        }
    }

    private static void rankOfThoseNotInIt() {
        CrowningSeats office = test(11, "THE ORDER has all GUESTS who are not GONE and whose KIND is in the text");
        read(office, "a;");
        office.guest(0, 0, 0, 1, 30, 1);
        office.guest(1, 0, 0, 1, 30, 1);
        office.guest(0, 0, 0, 1, 30, 1);
        office.gone(0, true);
        due("gone", office.rank(0), NONE);
        due("a kind that is not in the text", office.rank(1), NONE);
        due("the one who is left", office.rank(2), 0);
        office.gone(2, true);
        due("all of that kind are gone", office.all(4), 0);
        read(office, "b;");
        due("gone, with other rules", office.rank(0), NONE);
        due("the kind is in the text now", office.rank(1), 0);
    }

    private static void rankWithTheEmptyText() {
        CrowningSeats office = test(11, "At first the text is empty.");
        join(office, 1, 1);
        due("rank(0) at first", office.rank(0), NONE);
        office.rules();
        due("rank(0) with no lines", office.rank(0), NONE);
    }

    private static void rankByLines() {
        CrowningSeats office = test(11, "those of the first LINE are ahead of those of the second one, and so on");
        for (int kind = 0; kind <= 7; kind++) {
            office.guest(kind, kind, 0, 1, 30, 1);
        }
        read(office, "h by least date;g;f;e;d;c;b;a by least date;");
        for (int kind = 0; kind <= 7; kind++) {
            due("rank(" + kind + ")", office.rank(kind), 7 - kind);
        }
    }

    private static void rankByTheFirstKeyThatDiffers() {
        CrowningSeats office = test(11, "of one LINE, by its first KEY that differs");
        office.guest(0, 5, 9, 1, 30, 1);
        office.guest(0, 5, 8, 2, 30, 1);
        office.guest(0, 4, 9, 1, 30, 1);
        read(office, "a by least date,least age,most width;");
        due("the first key", office.ranked(0), 2);
        due("the second key", office.ranked(1), 1);
        read(office, "a by least eye,most worth,most date,least eye,most age;");
        due("two keys do not differ", office.rank(2), 2);
        due("the last key", office.ranked(0), 0);
        read(office, "a" + " by least eye" + ",most eye".repeat(19) + ",most width;");
        due("the last of 21 keys", office.ranked(0), 1);
    }

    private static void rankByTheKeysOfTheirLine() {
        CrowningSeats office = test(11, "of one LINE, by its first KEY that differs");
        for (int kind = 0; kind <= 2; kind++) {
            office.guest(kind, 2, 1, 1, 30, 1);
            office.guest(kind, 1, 2, 1, 30, 1);
        }
        read(office, "a;b by least date;c by least age;");
        int[] order = {0, 1, 3, 2, 4, 5};
        for (int i = 0; i < order.length; i++) {
            due("ranked(" + i + ")", office.ranked(i), order[i]);
        }
        read(office, "c by least date;b;a by most age;");
        order = new int[] {5, 4, 2, 3, 1, 0};
        for (int i = 0; i < order.length; i++) {
            due("ranked(" + i + ") by other rules", office.ranked(i), order[i]);
        }
    }

    private static void rankByTheLesserNumber() {
        CrowningSeats office = test(11, "that with the lesser (least) or greater (most) one; else the lesser number.");
        joinAll(office, 32, 1, 1);
        office.gone(0, true);
        office.gone(0, false);
        for (String text : new String[] {"a;", "a by least date;", "a by most date,most eye;"}) {
            read(office, text);
            due("ranked(0) by '" + text + "'", office.ranked(0), 0);
            due("ranked(31) by '" + text + "'", office.ranked(31), 31);
        }
    }

    private static void rankAtTheEndsOfTheKeys() {
        String[] fields = {"date", "age", "width", "eye", "worth"};
        int[] least = {0, 0, 1, 30, 1};
        int[] most = {9999, 120, 6, 80, 1000};
        for (int field = 0; field < fields.length; field++) {
            CrowningSeats office = test(11, "that with the lesser (least) or greater (most) one; else the lesser number.");
            int[] n = {5, 5, 5, 55, 55};
            n[field] = most[field];
            office.guest(0, n[0], n[1], n[2], n[3], n[4]);
            n[field] = least[field];
            office.guest(0, n[0], n[1], n[2], n[3], n[4]);
            read(office, "a by least " + fields[field] + ";");
            due("the least " + fields[field], office.rank(1), 0);
            read(office, "a by most " + fields[field] + ";");
            due("the most " + fields[field], office.rank(0), 0);
        }
    }

    // Promise 12.

    private static void ranked() {
        rankedOfNobody();
        rankedOutsideTheOrder();
        rankedOfAFullOrder();
        rankedWithoutThoseNotInIt();
    }

    private static void rankedOfNobody() {
        CrowningSeats office = testWithRules(12, "NONE if there is none such.");
        for (int i : new int[] {LOW, -1, 0, 1, HIGH}) {
            due("ranked(" + i + ")", office.ranked(i), NONE);
        }
    }

    private static void rankedOutsideTheOrder() {
        CrowningSeats office = testWithRules(12, "Which GUEST is the i-th of THE ORDER; NONE if there is none such.");
        joinAll(office, 3, 1, 1);
        due("ranked(0)", office.ranked(0), 0);
        due("ranked(2)", office.ranked(2), 2);
        for (int i : new int[] {LOW, -1, 3, 31, 32, HIGH}) {
            due("ranked(" + i + ")", office.ranked(i), NONE);
        }
    }

    private static void rankedOfAFullOrder() {
        CrowningSeats office = test(12, "Which GUEST is the i-th of THE ORDER; NONE if there is none such.");
        for (int i = 0; i < 32; i++) {
            office.guest(0, i, 0, 1, 30, 1);
        }
        read(office, "a by most date;");
        for (int i = 0; i < 32; i++) {
            due("ranked(" + i + ")", office.ranked(i), 31 - i);
        }
        due("ranked(32)", office.ranked(32), NONE);
    }

    private static void rankedWithoutThoseNotInIt() {
        CrowningSeats office = test(12, "THE ORDER has all GUESTS who are not GONE and whose KIND is in the text");
        joinAll(office, 32, 1, 1);
        read(office, "a;");
        office.gone(31, true);
        due("ranked(30)", office.ranked(30), 30);
        due("ranked(31)", office.ranked(31), NONE);
        office.gone(0, true);
        due("ranked(0)", office.ranked(0), 1);
        due("ranked(30)", office.ranked(30), NONE);
        read(office, "b;");
        due("ranked(0), nobody of that kind", office.ranked(0), NONE);
    }
}
