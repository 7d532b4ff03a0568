/** What the tests share: compares answers with what is due, and feeds texts to a court. */
final class Check {
    private int wrong = 0;
    private int asked = 0;

    void due(String call, long got, long want) {
        asked++;
        if (got != want) {
            wrong++;
            System.out.println(call + " answered " + got + ", due is " + want);
        }
    }

    /** A court with so many persons, born on day 0, and one law at place 0. */
    PromiseCourt court(int persons, String law) {
        PromiseCourt court = new PromiseCourt();
        strangers(court, persons);
        due("read of " + law, read(court, law, 0, 0), 0);
        return court;
    }

    void finish() {
        System.out.println(asked + " answers, " + wrong + " wrong");
        if (wrong != 0) {
            System.exit(1);
        }
    }

    /** Feeds a text of characters 0 to 255, padded to full twenties, and takes the padding back. */
    static void feed(PromiseCourt court, String text) {
        int padded = (text.length() + 19) / 20 * 20;
        for (int at = 0; at < padded; at += 20) {
            court.feed(four(text, at), four(text, at + 4), four(text, at + 8), four(text, at + 12), four(text, at + 16));
        }
        court.back(padded - text.length());
    }

    static int read(PromiseCourt court, String text, int place, int day) {
        feed(court, text);
        return court.read(place, day);
    }

    static String times(int n, String part) {
        return part.repeat(n);
    }

    /** So many persons of whom nothing is known, born on day 0. */
    static void strangers(PromiseCourt court, int n) {
        for (int i = 0; i < n; i++) {
            court.person(-1, -1, 0);
        }
    }

    private static int four(String text, int at) {
        int word = 0;
        for (int i = at; i < at + 4; i++) {
            word = word << 8 | (i < text.length() ? text.charAt(i) & 255 : ' ');
        }
        return word;
    }
}
