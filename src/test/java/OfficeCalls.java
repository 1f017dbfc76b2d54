/** Short ways to bring an office into some state, for the tests that are told call by call. */
abstract class OfficeCalls {
    static final int NONE = CrowningSeats.NONE;
    static final int LOW = Integer.MIN_VALUE;
    static final int HIGH = Integer.MAX_VALUE;
    static final String ALL_KINDS = "a,b,c,d,e,f,g,h;";

    /** Each character of the text is a byte of the tape; the last twenty are filled up, and cut off again. */
    static void put(CrowningSeats office, String text) {
        office.end(0);
        for (int i = 0; i < text.length(); i += 20) {
            int[] five = new int[5];
            for (int k = 0; k < 20; k++) {
                five[k / 4] = five[k / 4] << 8 | (i + k < text.length() ? text.charAt(i + k) : '?');
            }
            office.feed(five[0], five[1], five[2], five[3], five[4]);
        }
        office.end(text.length());
    }

    static int read(CrowningSeats office, String text) {
        put(office, text);
        return office.rules();
    }

    static int join(CrowningSeats office, int width, int worth) {
        return office.guest(0, 0, 0, width, 40, worth);
    }

    static int joinWithEye(CrowningSeats office, int width, int eye) {
        return office.guest(0, 0, 0, width, eye, 1000);
    }

    static void joinAll(CrowningSeats office, int count, int width, int worth) {
        for (int i = 0; i < count; i++) {
            join(office, width, worth);
        }
    }

    static void addRows(CrowningSeats office, int... wide) {
        for (int its : wide) {
            office.row(its, 0, 20);
        }
    }
}
