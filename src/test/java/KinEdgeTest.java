/** Promises 14 and 15 at their edges: oneself, nobody in common, the fewest STEPS, and the 14 places. */
public final class KinEdgeTest {
    private static final Check CHECK = new Check();
    private static final int[] NOBODY = {-1, -2, 5, 6, 11, 12, 100, Integer.MIN_VALUE, Integer.MAX_VALUE};

    public static void main(String[] args) {
        promise14OfOneAndTheSame();
        promise14NobodyInCommon();
        promise14LongestLine();
        promise14GreaterOfBothSteps();
        promise14LeastOverAllForebears();
        promise14FewestSteps();
        promise14LaterPersonsChangeNothing();
        promise14NoSuchOnes();
        promise15NobodyIsKnown();
        promise15EverybodyIsKnown();
        promise15EachOfTheFourteenPlaces();
        promise15NotTheFourthRank();
        promise15NoneSuch();
        CHECK.finish();
    }

    /** A degree does not depend on who is named first. */
    private static void degree(PromiseCourt court, int one, int other, int want) {
        CHECK.due("promise 14: degree of " + one + " and " + other, court.degree(one, other), want);
        CHECK.due("promise 14: degree of " + other + " and " + one, court.degree(other, one), want);
    }

    private static void promise14OfOneAndTheSame() {
        PromiseCourt court = Courts.full();
        for (int person = 0; person < 12; person++) {
            degree(court, person, person, 0);
        }
        degree(Courts.told(), 4, 4, 0);
    }

    private static void promise14NobodyInCommon() {
        PromiseCourt court = new PromiseCourt();
        Check.strangers(court, 12);
        for (int person = 1; person < 12; person++) {
            degree(court, 0, person, 99);
        }
        // Two who have a child have nobody in common by it.
        degree(Courts.told(), 0, 1, 99);
        degree(Courts.told(), 3, 4, 99);
    }

    private static PromiseCourt line() {
        PromiseCourt court = new PromiseCourt();
        court.person(-1, -1, 0);
        for (int i = 1; i < 12; i++) {
            court.person(i % 2 == 0 ? i - 1 : -1, i % 2 == 0 ? -1 : i - 1, i);
        }
        return court;
    }

    private static void promise14LongestLine() {
        PromiseCourt court = line();
        for (int person = 0; person < 12; person++) {
            degree(court, 0, person, person);
            degree(court, 11, person, 11 - person);
        }
    }

    /** Two lines from 0: 1, 2, 3 and 4, 5, 6, 7, 8. */
    private static void promise14GreaterOfBothSteps() {
        PromiseCourt court = new PromiseCourt();
        int[] fathers = {-1, 0, 1, 2, 0, 4, 5, 6, 7};
        for (int i = 0; i < fathers.length; i++) {
            court.person(fathers[i], -1, i);
        }
        int[] steps = {0, 1, 2, 3, 1, 2, 3, 4, 5};
        for (int one = 1; one < 4; one++) {
            for (int other = 4; other < 9; other++) {
                degree(court, one, other, Math.max(steps[one], steps[other]));
            }
        }
    }

    /** 5 and 6 have 0 in common, at three steps and two; 7 and 8 have 4 too, at two and one. */
    private static void promise14LeastOverAllForebears() {
        PromiseCourt court = new PromiseCourt();
        court.person(-1, -1, 0);
        court.person(0, -1, 1);
        court.person(1, -1, 2);
        court.person(0, -1, 1);
        court.person(-1, -1, 1);
        court.person(2, 4, 5);
        court.person(3, -1, 5);
        degree(court, 5, 6, 3);
        court.person(5, -1, 6);
        court.person(3, 4, 6);
        degree(court, 7, 8, 2);
        degree(court, 5, 8, 1);
    }

    /** 0 is the father of 3 and of its mother; 2 is the mother of 5 and of its father. */
    private static void promise14FewestSteps() {
        PromiseCourt court = new PromiseCourt();
        Check.strangers(court, 2);
        court.person(0, 1, 1);
        court.person(0, 2, 2);
        court.person(2, 0, 2);
        court.person(3, 2, 3);
        degree(court, 3, 0, 1);
        degree(court, 4, 0, 1);
        degree(court, 5, 0, 2);
        degree(court, 5, 2, 1);
        degree(court, 5, 1, 2);
    }

    private static void promise14LaterPersonsChangeNothing() {
        PromiseCourt court = Courts.told();
        degree(court, 4, 0, 2);
        degree(court, 3, 4, 99);
        court.person(4, 3, 9999);
        degree(court, 4, 0, 2);
        degree(court, 3, 4, 99);
        degree(court, 5, 0, 3);
        degree(court, 5, 3, 1);
    }

    private static void promise14NoSuchOnes() {
        Twins twins = new Twins(CHECK, "promise 14", Courts::told);
        for (int none : NOBODY) {
            twins.refused("degree of " + none + " and 0", -1, court -> court.degree(none, 0));
            twins.refused("degree of 4 and " + none, -1, court -> court.degree(4, none));
            twins.refused("degree of " + none + " twice", -1, court -> court.degree(none, none));
        }
        CHECK.due("promise 14: nobody is there", new PromiseCourt().degree(0, 0), -1);
        CHECK.due("promise 14: a twelfth of twelve", Courts.full().degree(11, 0), 99);
        CHECK.due("promise 14: a thirteenth", Courts.full().degree(12, 0), -1);
    }

    private static void promise15NobodyIsKnown() {
        PromiseCourt court = Courts.full();
        for (int person = 0; person < 12; person++) {
            CHECK.due("promise 15: gaps of " + person, court.gaps(person), 14);
        }
    }

    /** The children of brother and sister, for three ranks: all places are filled, some by the same. */
    private static PromiseCourt dense() {
        PromiseCourt court = new PromiseCourt();
        Check.strangers(court, 2);
        for (int rank = 1; rank < 4; rank++) {
            court.person(2 * rank - 2, 2 * rank - 1, rank);
            court.person(2 * rank - 2, 2 * rank - 1, rank);
        }
        return court;
    }

    private static void promise15EverybodyIsKnown() {
        PromiseCourt court = dense();
        int[] gaps = {14, 14, 12, 12, 8, 8, 0, 0};
        for (int person = 0; person < 8; person++) {
            CHECK.due("promise 15: gaps of " + person, court.gaps(person), gaps[person]);
        }
    }

    /** A line of fathers and mothers fills three places, in each of the eight ways. */
    private static void promise15EachOfTheFourteenPlaces() {
        for (int way = 0; way < 8; way++) {
            PromiseCourt court = new PromiseCourt();
            court.person(-1, -1, 0);
            for (int rank = 0; rank < 3; rank++) {
                boolean father = (way >> rank & 1) == 0;
                court.person(father ? rank : -1, father ? -1 : rank, rank + 1);
                CHECK.due("promise 15: way " + way + " of rank " + rank, court.gaps(rank + 1), 13 - rank);
            }
            court.person(3, 0, 9);
            CHECK.due("promise 15: a father's line and a mother", court.gaps(4), 14 - 3 - 1);
            court.person(0, 3, 9);
            CHECK.due("promise 15: a mother's line and a father", court.gaps(5), 14 - 3 - 1);
        }
    }

    private static void promise15NotTheFourthRank() {
        PromiseCourt court = line();
        for (int person = 0; person < 12; person++) {
            CHECK.due("promise 15: gaps of " + person + " in a line", court.gaps(person), 14 - Math.min(3, person));
        }
        PromiseCourt dense = dense();
        dense.person(6, -1, 9);
        CHECK.due("promise 15: below a rank without gaps", dense.gaps(8), 14 - 7);
        dense.person(6, 7, 9);
        CHECK.due("promise 15: below two without gaps", dense.gaps(9), 0);
    }

    private static void promise15NoneSuch() {
        Twins twins = new Twins(CHECK, "promise 15", Courts::told);
        for (int none : NOBODY) {
            twins.refused("gaps of " + none, -1, court -> court.gaps(none));
        }
        CHECK.due("promise 15: nobody is there", new PromiseCourt().gaps(0), -1);
        CHECK.due("promise 15: a thirteenth", Courts.full().gaps(12), -1);
    }
}
