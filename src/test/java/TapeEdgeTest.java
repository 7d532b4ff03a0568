/** Promises 2 and 3 at their edges: the tape empty, full and nearly full, and each place of a byte. */
public final class TapeEdgeTest {
    private static final Check CHECK = new Check();
    private static final int BLANKS = 0x20202020;
    private static final int NO_TOKENS = 0x23232323;

    public static void main(String[] args) {
        promise2HighestByteComesFirst();
        promise2ComesBehindTheTape();
        promise2TellsHowManyItHas();
        promise2TakesEveryByte();
        promise2TakesEveryInt();
        promise2NotMoreThan2000();
        promise2RefusedFeedBringsNothing();
        promise3LastBytesGo();
        promise3EmptyTape();
        promise3AllAndNotOneMore();
        promise3RefusedBackTakesNothing();
        CHECK.finish();
    }

    /** Twenty bytes of blanks, but for a # at one of them. */
    private static int feed(PromiseCourt court, int at) {
        int[] words = {BLANKS, BLANKS, BLANKS, BLANKS, BLANKS};
        int shift = 24 - 8 * (at % 4);
        words[at / 4] = BLANKS & ~(255 << shift) | '#' << shift;
        return court.feed(words[0], words[1], words[2], words[3], words[4]);
    }

    private static PromiseCourt blank(int feeds) {
        PromiseCourt court = new PromiseCourt();
        for (int i = 0; i < feeds; i++) {
            court.feed(BLANKS, BLANKS, BLANKS, BLANKS, BLANKS);
        }
        return court;
    }

    private static void promise2HighestByteComesFirst() {
        for (int at = 0; at < 20; at++) {
            PromiseCourt court = blank(0);
            CHECK.due("promise 2: twenty bytes", feed(court, at), 20);
            CHECK.due("promise 2: # at " + at, court.read(0, 0), 1);
            CHECK.due("promise 2: the place of # at " + at, court.place(), at);
        }
    }

    private static void promise2ComesBehindTheTape() {
        for (int feeds : new int[] {1, 2, 50, 99}) {
            PromiseCourt court = blank(feeds);
            feed(court, 0);
            court.read(0, 0);
            CHECK.due("promise 2: the first byte behind " + feeds + " feeds", court.place(), 20 * feeds);
            PromiseCourt last = blank(feeds);
            feed(last, 19);
            last.read(0, 0);
            CHECK.due("promise 2: the last byte behind " + feeds + " feeds", last.place(), 20 * feeds + 19);
        }
    }

    private static void promise2TellsHowManyItHas() {
        PromiseCourt court = blank(0);
        for (int i = 1; i <= 100; i++) {
            CHECK.due("promise 2: feed " + i, court.feed(0, 0, 0, 0, 0), 20 * i);
        }
        CHECK.due("promise 2: feed 101", court.feed(0, 0, 0, 0, 0), -1);
        CHECK.due("promise 2: how many are there then", court.count(5), 2000);
    }

    private static void promise2TakesEveryByte() {
        for (int b = 0; b < 256; b++) {
            PromiseCourt court = blank(0);
            court.feed(b << 24, 0, 0, 0, 0);
            CHECK.due("promise 2: but for byte " + b, court.back(19), 1);
            boolean blank = b == 9 || b == 10 || b == 13 || b == 32;
            CHECK.due("promise 2: byte " + b, court.read(0, 0), blank ? 0 : 1);
            CHECK.due("promise 2: the place of byte " + b, court.place(), blank ? -1 : 0);
        }
    }

    private static void promise2TakesEveryInt() {
        int[] ints = {Integer.MIN_VALUE, -1, 0, 1, Integer.MAX_VALUE};
        PromiseCourt court = blank(0);
        for (int i = 0; i < 5; i++) {
            int got = court.feed(ints[i], ints[(i + 1) % 5], ints[(i + 2) % 5], ints[(i + 3) % 5], ints[(i + 4) % 5]);
            CHECK.due("promise 2: any ints", got, 20 * i + 20);
        }
    }

    private static void promise2NotMoreThan2000() {
        for (int length = 1981; length <= 2000; length++) {
            PromiseCourt court = blank(100);
            court.back(2000 - length);
            CHECK.due("promise 2: behind " + length, court.feed(BLANKS, BLANKS, BLANKS, BLANKS, BLANKS), -1);
            CHECK.due("promise 2: still " + length, court.count(5), length);
            court.back(length - 1980);
            CHECK.due("promise 2: behind 1980", court.feed(BLANKS, BLANKS, BLANKS, BLANKS, BLANKS), 2000);
        }
    }

    private static void promise2RefusedFeedBringsNothing() {
        for (int gone : new int[] {0, 1, 10, 19}) {
            PromiseCourt court = blank(100);
            court.back(gone);
            CHECK.due("promise 2: a refused feed", court.feed(NO_TOKENS, NO_TOKENS, NO_TOKENS, NO_TOKENS, NO_TOKENS), -1);
            CHECK.due("promise 2: of which nothing is read", court.read(0, 0), 0);
            CHECK.due("promise 2: of which no byte is a fault", court.place(), -1);
        }
        Twins twins = new Twins(CHECK, "promise 2", TapeEdgeTest::told);
        twins.refused("a feed to 2001", -1, court -> court.feed(NO_TOKENS, NO_TOKENS, NO_TOKENS, NO_TOKENS, NO_TOKENS));
    }

    /** A court that was told this and that, with 1981 bytes on its tape. */
    private static PromiseCourt told() {
        PromiseCourt court = Courts.told();
        court.back(9);
        Check.feed(court, "lapse 12;" + Check.times(1972, " "));
        return court;
    }

    private static void promise3LastBytesGo() {
        for (int left = 0; left <= 10; left++) {
            PromiseCourt court = new PromiseCourt();
            Check.feed(court, "lapse 12;#");
            CHECK.due("promise 3: back to " + left, court.back(10 - left), left);
            CHECK.due("promise 3: what is left, " + left, court.read(0, 0), left == 0 || left == 9 ? 0 : 1);
            CHECK.due("promise 3: its place, " + left, court.place(), left == 0 || left == 9 ? -1 : left == 10 ? 9 : left < 5 ? 0 : left);
        }
    }

    private static void promise3EmptyTape() {
        PromiseCourt court = new PromiseCourt();
        CHECK.due("promise 3: none of an empty tape", court.back(0), 0);
        CHECK.due("promise 3: one of an empty tape", court.back(1), -1);
        CHECK.due("promise 3: -1 of an empty tape", court.back(-1), -1);
        Check.read(court, "lapse 1;", 0, 0);
        CHECK.due("promise 3: one of a tape that was read", court.back(1), -1);
    }

    private static void promise3AllAndNotOneMore() {
        for (int feeds : new int[] {1, 2, 99, 100}) {
            PromiseCourt court = blank(feeds);
            int length = 20 * feeds;
            CHECK.due("promise 3: none of " + length, court.back(0), length);
            CHECK.due("promise 3: one more than " + length, court.back(length + 1), -1);
            CHECK.due("promise 3: one of " + length, court.back(1), length - 1);
            CHECK.due("promise 3: all that there were", court.back(length), -1);
            CHECK.due("promise 3: all but one", court.back(length - 2), 1);
            CHECK.due("promise 3: two of one", court.back(2), -1);
            CHECK.due("promise 3: the last one", court.back(1), 0);
        }
        CHECK.due("promise 3: all of a full tape", blank(100).back(2000), 0);
    }

    private static void promise3RefusedBackTakesNothing() {
        Twins twins = new Twins(CHECK, "promise 3", Courts::told);
        for (int n : new int[] {10, 11, 2000, 2001, -1, -9, Integer.MIN_VALUE, Integer.MAX_VALUE}) {
            twins.refused("back(" + n + ") of 9", -1, court -> court.back(n));
        }
    }
}
