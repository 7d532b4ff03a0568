/** Promises 22 and 23 at their edges: shares held to 0 .. 100, the whole part, which STATES, and wrong inputs. */
public final class GiftEdgeTest {
    private static final Check CHECK = new Check();
    private static final int LEAST = Integer.MIN_VALUE;
    private static final int GREATEST = Integer.MAX_VALUE;
    private static final String PROVED = Courts.ALL_PROVED;
    // Of Courts.told(), which has four gifts, five persons and nine facts.
    private static final int[] NO_DAYS = {-1, -2, 10000, 10001, LEAST, GREATEST};
    private static final int[] NO_FACTS = {-1, -2, 10, 11, 200, 201, LEAST, GREATEST};

    public static void main(String[] args) {
        promise22HeldTo0And100();
        promise22WrappedShares();
        promise22TheWholePart();
        promise22NothingWithoutARule();
        promise22FirstRuleThatHolds();
        promise22OnlyInSomeStates();
        promise22WhyIsTheState();
        promise22WhyOfALaterOne();
        promise22DaysTillItEnded();
        promise22VarsThatBackHasNot();
        promise22ByThePromisesOwnLaw();
        promise22NoSuchOnes();
        promise23ToAndFrom();
        promise23AllTwentyGifts();
        promise23WholePartsOneByOne();
        promise23ZeroForOthers();
        CHECK.finish();
    }

    /** A court with a gift by the first of a couple that was barred on day 500. */
    private static PromiseCourt barred(String rules, int value) {
        PromiseCourt court = CHECK.court(2, PROVED + "bar if 1 == 1;" + rules);
        court.promise(0, 1, 0, 500, 1, -1);
        court.gift(0, 0, value);
        return court;
    }

    private static void goes(String rules, int value, int want) {
        PromiseCourt court = barred(rules, value);
        CHECK.due("promise 22: " + rules + " of " + value, court.goes(0, 500, 0), want);
        CHECK.due("promise 23: " + rules + " of " + value, court.owes(1, 500, 0), want);
        CHECK.due("promise 23: " + rules + " of " + value + ", to the giver", court.owes(0, 500, 0), -want);
    }

    private static void promise22HeldTo0And100() {
        goes("back 0;", 1000, 0);
        goes("back 1;", 1000, 10);
        goes("back 99;", 1000, 990);
        goes("back 100;", 1000, 1000);
        goes("back 101;", 1000, 1000);
        goes("back 9999;", 1000, 1000);
        goes("back 0 - 1;", 1000, 0);
        goes("back 0 - 9999;", 1000, 0);
        goes("back 100 - 101;", 1, 0);
    }

    private static void promise22WrappedShares() {
        goes("back 2048 * 1024 * 1024 - 1;", 1000, 1000);
        goes("back 2048 * 1024 * 1024;", 1000, 0);
        goes("back 2048 * 1024 * 1024 - 1 + 1;", 1000, 0);
        goes("back 256 * 256 * 256 * 256 + 50;", 1000, 500);
        goes("back 0 - 2048 * 1024 * 1024 - 1;", 1000, 1000);
    }

    private static void promise22TheWholePart() {
        int[][] rows = {{1, 99, 0}, {1, 100, 1}, {2, 50, 1}, {2, 49, 0}, {3, 66, 1}, {3, 67, 2}, {99, 1, 0}, {100, 1, 1},
            {199, 1, 1}, {1000, 33, 330}, {999, 99, 989}, {11, 9, 0}, {12, 9, 1}};
        for (int[] row : rows) {
            goes("back " + row[1] + ";", row[0], row[2]);
        }
    }

    private static void promise22NothingWithoutARule() {
        goes("", 1000, 0);
        goes("back 100 if 1 == 2;", 1000, 0);
        goes("back 100 if 1 == 2; lapse 5; over if 1 == 1; back 50 if 2 == 1;", 1000, 0);
    }

    private static void promise22FirstRuleThatHolds() {
        goes("back 10; back 20;", 100, 10);
        goes("back 10 if 1 == 1; back 20;", 100, 10);
        goes("back 10 if 1 == 2; back 20;", 100, 20);
        goes("back 10 if 1 == 2 or 1 == 1; back 20;", 100, 10);
        goes("back 10 if 1 == 1 and 1 == 2; back 20 if 1 == 2; back 30 if 1 == 1; back 40;", 100, 30);
        goes("back 0; back 20;", 100, 0);
        PromiseCourt first = CHECK.court(2, "back 60; bar if 1 == 1;" + PROVED + "back 70;");
        first.promise(0, 1, 0, 500, 1, -1);
        first.gift(0, 0, 100);
        CHECK.due("promise 22: rule 0", first.goes(0, 500, 0), 60);
        goes(Check.times(13, "back 10 if 1 == 2;") + "back 99;", 100, 99);
    }

    private static void promise22OnlyInSomeStates() {
        String law = "proof if fame == 0; lapse 20; over if tense == 1; back 100;";
        PromiseCourt court = CHECK.court(4, law);
        court.promise(0, 1, 0, 500, 0, 0);
        court.gift(0, 0, 8);
        state(court, 500, 2, 0);
        court.comes(0, 600, true);
        state(court, 599, 2, 0);
        state(court, 600, 6, 0);
        state(court, 9999, 6, 0);
        court.fate(2, 0, 680);
        state(court, 699, 6, 0);
        state(court, 700, 8, 8);
        state(court, 9999, 8, 8);
        court.promise(1, 2, 0, 690, 1, -1);
        state(court, 689, 6, 0);
        state(court, 690, 9, 8);
        court.fate(0, 1, 650);
        state(court, 649, 6, 0);
        state(court, 650, 7, 8);
        court.promise(1, 3, 0, 580, 1, -1);
        state(court, 599, 2, 0);
        state(court, 600, 5, 8);
        court.fate(0, 1, 600);
        state(court, 600, 4, 8);
        court.comes(0, 599, false);
        state(court, 598, 2, 0);
        state(court, 599, 3, 8);
        court.fame(0);
        state(court, 9999, 0, 0);
        PromiseCourt plain = CHECK.court(2, law);
        plain.promise(0, 1, 0, 500, 0, -1);
        plain.gift(0, 0, 8);
        plain.fate(0, 0, 500);
        state(plain, 499, 1, 0);
        state(plain, 500, 4, 8);
    }

    private static void state(PromiseCourt court, int day, int state, int goes) {
        int facts = court.count(3);
        CHECK.due("promise 19: on " + day + " by " + facts, court.state(0, day, facts), state);
        CHECK.due("promise 22: on " + day + " by " + facts, court.goes(0, day, facts), goes);
    }

    private static void why(String what, PromiseCourt court, int day, int want) {
        CHECK.due("promise 22: why, " + what, court.goes(0, day, court.count(3)), want);
    }

    private static void promise22WhyIsTheState() {
        PromiseCourt fails = CHECK.court(3, PROVED + "back why;");
        fails.promise(0, 1, 0, 500, 0, 0);
        fails.gift(0, 0, 100);
        fails.comes(0, 600, false);
        why("fails", fails, 600, 3);
        why("barred", barred("back why;", 100), 500, 4);
        PromiseCourt rival = CHECK.court(3, PROVED + "back why;");
        rival.promise(0, 1, 0, 500, 0, -1);
        rival.promise(0, 2, 0, 499, 0, -1);
        rival.gift(0, 0, 100);
        why("void", rival, 500, 5);
        PromiseCourt dead = CHECK.court(2, PROVED + "back why;");
        dead.promise(0, 1, 0, 500, 0, -1);
        dead.gift(0, 1, 100);
        dead.fate(0, 0, 501);
        why("death", dead, 501, 7);
        PromiseCourt lapse = CHECK.court(2, PROVED + "back why; lapse 0;");
        lapse.promise(0, 1, 0, 500, 0, -1);
        lapse.gift(0, 1, 100);
        lapse.fate(2, 0, 500);
        why("a lapse on effect", lapse, 500, 8);
    }

    private static void promise22WhyOfALaterOne() {
        int[][] rows = {{0, 2, 0, 9}, {2, 0, 0, 9}, {0, 2, 1, 10}, {1, 2, 0, 10}, {1, 2, 1, 9}, {2, 1, 1, 9}, {0, 1, 0, 11},
            {0, 1, 1, 11}, {1, 0, 0, 11}, {1, 0, 1, 11}};
        for (int[] row : rows) {
            for (int day : new int[] {500, 501}) {
                PromiseCourt court = CHECK.court(3, PROVED + Courts.ALL_OVER + "back why;");
                court.promise(0, 1, 0, 500, 0, -1);
                court.promise(row[0], row[1], 0, day, 0, -1);
                court.gift(0, row[2], 100);
                why(row[0] + " to " + row[1] + ", given by " + row[2], court, day, row[3]);
            }
        }
    }

    private static void promise22DaysTillItEnded() {
        for (int days : new int[] {1, 2, 99, 100}) {
            PromiseCourt court = CHECK.court(2, PROVED + "back days;");
            court.promise(0, 1, 0, 400, 0, 0);
            court.gift(0, 0, 100);
            court.comes(0, 500, true);
            court.fate(0, 0, 500 + days);
            why("death behind " + days + " days", court, 500 + days, days);
            why("death behind " + days + " days, long ago", court, 9999, days);
        }
        PromiseCourt first = CHECK.court(2, PROVED + "back days - 9898;");
        first.promise(0, 1, 0, 0, 0, -1);
        first.gift(0, 0, 100);
        first.fate(0, 1, 9999);
        why("death behind 9999 days", first, 9999, 100);
        PromiseCourt lapse = CHECK.court(2, PROVED + "lapse 5; back days + 7;");
        lapse.promise(0, 1, 0, 500, 0, -1);
        lapse.gift(0, 0, 100);
        lapse.fate(2, 1, 510);
        why("a lapse behind 15 days", lapse, 515, 22);
        lapse.fate(2, 1, 495);
        why("a lapse on effect", lapse, 500, 7);
        goes("back days + 7;", 100, 7);
        PromiseCourt fails = CHECK.court(2, PROVED + "back days + 7;");
        fails.promise(0, 1, 0, 500, 0, 0);
        fails.gift(0, 0, 100);
        fails.comes(0, 600, false);
        why("days of one that fails", fails, 9999, 7);
        PromiseCourt rival = CHECK.court(3, PROVED + "back days + 7;");
        rival.promise(0, 1, 0, 500, 0, -1);
        rival.promise(0, 2, 0, 400, 0, -1);
        rival.gift(0, 0, 100);
        why("days of a void one", rival, 9999, 7);
    }

    private static void promise22VarsThatBackHasNot() {
        for (String var : new String[] {"yes", "no", "kin", "fame", "age", "degree", "vow", "leave", "old"}) {
            PromiseCourt court = CHECK.court(3, PROVED + "bar if degree == 1; back " + var + " + 3 if " + var + " == 0 and tense == 1;");
            court.person(0, 1, 10);
            court.promise(3, 0, 0, 5000, 1, -1);
            court.gift(0, 0, 100);
            court.says(100, 0, true);
            court.says(101, 0, false);
            court.says(1, 0, true);
            court.fame(0);
            court.fate(1, 0, 10);
            court.leave(0, 3, 10);
            why(var + " is 0", court, 5000, 3);
        }
    }

    private static void promise22ByThePromisesOwnLaw() {
        PromiseCourt court = CHECK.court(2, PROVED + "bar if 1 == 1; back 10;");
        Check.read(court, PROVED + "bar if 1 == 1; back 20;", 0, 501);
        court.promise(0, 1, 0, 500, 0, -1);
        court.promise(0, 1, 0, 501, 0, -1);
        court.gift(0, 0, 100);
        court.gift(1, 0, 100);
        CHECK.due("promise 22: the law of its day", court.goes(0, 9999, 0), 10);
        CHECK.due("promise 22: the law of the next day", court.goes(1, 9999, 0), 20);
    }

    private static void promise22NoSuchOnes() {
        Twins twins = new Twins(CHECK, "promise 22", Courts::told);
        CHECK.due("promise 22: such ones", Courts.told().goes(0, 9999, 9), 50);
        for (int none : new int[] {-1, -2, 4, 5, 19, 20, LEAST, GREATEST}) {
            twins.refused("goes(" + none + ", 9999, 9)", -1, court -> court.goes(none, 9999, 9));
        }
        for (int none : NO_DAYS) {
            twins.refused("goes(0, " + none + ", 9)", -1, court -> court.goes(0, none, 9));
        }
        for (int none : NO_FACTS) {
            twins.refused("goes(0, 9999, " + none + ")", -1, court -> court.goes(0, 9999, none));
        }
        CHECK.due("promise 22: nothing is given", new PromiseCourt().goes(0, 0, 0), -1);
        CHECK.due("promise 22: the twentieth", Courts.full().goes(19, 500, 200), 11);
        CHECK.due("promise 22: a 21st", Courts.full().goes(20, 500, 200), -1);
    }

    private static void promise23ToAndFrom() {
        PromiseCourt court = CHECK.court(3, PROVED + "bar if 1 == 1; back 100;");
        court.promise(0, 1, 0, 500, 0, -1);
        court.promise(1, 2, 0, 600, 0, -1);
        int[][] gifts = {{0, 0, 1000}, {0, 1, 300}, {1, 0, 50}, {1, 1, 4}};
        int[][] owed = {{-1000, 1000, 0}, {-700, 700, 0}, {-700, 650, 50}, {-700, 654, 46}};
        for (int i = 0; i < 4; i++) {
            court.gift(gifts[i][0], gifts[i][1], gifts[i][2]);
            for (int person = 0; person < 3; person++) {
                CHECK.due("promise 23: " + person + " with " + (i + 1) + " gifts", court.owes(person, 600, 0), owed[i][person]);
            }
        }
        CHECK.due("promise 23: on the day of the first alone", court.owes(1, 599, 0), 700);
        CHECK.due("promise 23: a day ahead of both", court.owes(1, 499, 0), 0);
    }

    private static void promise23AllTwentyGifts() {
        PromiseCourt court = CHECK.court(2, PROVED + "bar if 1 == 1; back 100;");
        court.promise(0, 1, 0, 0, 0, -1);
        for (int i = 0; i < 20; i++) {
            court.gift(0, 0, 1000);
        }
        CHECK.due("promise 23: the most that can be owed", court.owes(1, 0, 0), 20000);
        CHECK.due("promise 23: the least that can be owed", court.owes(0, 0, 0), -20000);
        CHECK.due("promise 23: on the last day", court.owes(0, 9999, 0), -20000);
    }

    private static void promise23WholePartsOneByOne() {
        PromiseCourt court = CHECK.court(2, PROVED + "bar if 1 == 1; back 50;");
        court.promise(0, 1, 0, 0, 0, -1);
        court.gift(0, 0, 1);
        court.gift(0, 0, 1);
        CHECK.due("promise 23: two halves of one", court.owes(1, 0, 0), 0);
        court.gift(0, 0, 3);
        CHECK.due("promise 23: and one of three", court.owes(1, 0, 0), 1);
    }

    private static void promise23ZeroForOthers() {
        Twins twins = new Twins(CHECK, "promise 23", Courts::told);
        CHECK.due("promise 23: such ones", Courts.told().owes(3, 9999, 9), 50 + 45);
        for (int none : new int[] {-1, -2, 5, 6, 11, 12, 100, LEAST, GREATEST}) {
            twins.refused("owes(" + none + ", 9999, 9)", 0, court -> court.owes(none, 9999, 9));
        }
        for (int none : NO_DAYS) {
            twins.refused("owes(3, " + none + ", 9)", 0, court -> court.owes(3, none, 9));
        }
        for (int none : NO_FACTS) {
            twins.refused("owes(3, 9999, " + none + ")", 0, court -> court.owes(3, 9999, none));
        }
        CHECK.due("promise 23: one to whom nothing was given", Courts.told().owes(4, 0, 9), 0);
    }
}
