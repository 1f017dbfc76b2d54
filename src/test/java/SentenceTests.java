import java.io.IOException;
import java.nio.file.Files;
import java.nio.file.Path;
import java.util.Set;
import java.util.TreeSet;

/**
 * What the tests of the document's sentences share: each names its promise and quotes the sentence, and has a new office
 * for its calls. A quote must stand in the document word for word.
 */
abstract class SentenceTests extends OfficeCalls {
    private static final Path DOCUMENT = Path.of("../shared/DOC.md");
    private static final Set<Integer> PROMISES = new TreeSet<>();

    private static String document;
    private static int promise;
    private static String sentence = "";
    private static int tests;
    private static int right;
    private static int wrong;

    /** Begins a test: all answers that are due until the next one begins belong to this sentence. */
    static CrowningSeats test(int itsPromise, String itsSentence) {
        if (itsPromise < promise) {
            fault("comes behind a test of promise " + promise);
        }
        promise = itsPromise;
        sentence = itsSentence;
        PROMISES.add(promise);
        tests++;
        if (!standsInDocument(sentence)) {
            fault("does not stand in the document");
        }
        return new CrowningSeats();
    }

    /** The same with rules by which all kinds are one line, in the order of their numbers. */
    static CrowningSeats testWithRules(int itsPromise, String itsSentence) {
        CrowningSeats office = test(itsPromise, itsSentence);
        read(office, ALL_KINDS);
        return office;
    }

    static void due(String call, int got, int want) {
        if (got == want) {
            right++;
        } else {
            fault(call + " answered " + got + ", due is " + want);
        }
    }

    static void due(String call, boolean got, boolean want) {
        due(call, got ? 1 : 0, want ? 1 : 0);
    }

    /** Of a guest who sits: row and first place; of one who is left out: NONE and NONE. */
    static void dueSpot(CrowningSeats office, int guest, int row, int place) {
        due("sits(" + guest + ", 0)", office.sits(guest, 0), row);
        due("sits(" + guest + ", 1)", office.sits(guest, 1), place);
    }

    static void dueOut(CrowningSeats office, int guest) {
        dueSpot(office, guest, NONE, NONE);
    }

    /** Ends the program: each promise from the first to the last must have had a test. */
    static void finish(int first, int last) {
        sentence = "";
        for (promise = first; promise <= last; promise++) {
            if (!PROMISES.contains(promise)) {
                fault("has no test");
            }
        }
        System.out.println(tests + " tests of sentences: " + right + " answers as due, " + wrong + " faults");
        if (wrong != 0) {
            System.exit(1);
        }
    }

    private static void fault(String what) {
        wrong++;
        System.out.println("promise " + promise + ", \"" + sentence + "\": " + what);
    }

    /** A checkout may have the shared tests without the document: then the quotes alone are not looked at. */
    private static boolean standsInDocument(String quote) {
        if (document == null) {
            try {
                document = Files.readString(DOCUMENT);
            } catch (IOException e) {
                document = "";
                System.out.println("quotes are not looked at, as there is no " + DOCUMENT);
            }
        }
        return document.isEmpty() || document.contains(quote);
    }
}
