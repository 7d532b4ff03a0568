/** Each call with all rows full, and what the last of each row does. */
public final class FullTest {
    private static final Check CHECK = new Check();

    public static void main(String[] args) {
        PromiseCourt court = Courts.full();
        counts(court);
        questions(court);
        lastOnes(court);
        CHECK.finish();
    }

    private static void counts(PromiseCourt court) {
        int[] counts = {12, 10, 20, 200, 8, 0};
        for (int what = 0; what < counts.length; what++) {
            CHECK.due("count(" + what + ")", court.count(what), counts[what]);
        }
    }

    private static void questions(PromiseCourt court) {
        for (int p = 0; p < 10; p++) {
            CHECK.due("law of " + p, court.law(p), 4 + p % 4);
            CHECK.due("proved " + p, court.proved(p, 200), 0);
            CHECK.due("barred " + p, court.barred(p, 200), -1);
            CHECK.due("state of " + p, court.state(p, 400, 200), p < 5 ? 9 : 6);
            CHECK.due("end of " + p, court.force(p, 200, 1), p < 5 ? 105 + p : p == 9 ? 500 : -1);
            CHECK.due("ender of " + p, court.force(p, 200, 3), p < 5 ? 5 + p : -1);
        }
        for (int person = 0; person < 12; person++) {
            CHECK.due("bound " + person, court.bound(person, 400, 200), person < 10 ? person ^ 1 : -1);
            CHECK.due("bound " + person, court.bound(person, 9999, 200), person < 8 ? person ^ 1 : -1);
        }
    }

    private static void lastOnes(PromiseCourt court) {
        CHECK.due("the last gift, in force", court.goes(19, 499, 200), 0);
        CHECK.due("the last gift", court.goes(19, 500, 200), 11);
        CHECK.due("the last gift, ahead of the last fact", court.goes(19, 500, 199), 0);
        // Gifts 4 and 9 are by person 8, gifts 14 and 19 to it.
        CHECK.due("owed to 8", court.owes(8, 500, 200), 11 + 11 - 10 - 10);
        CHECK.due("owed to 9", court.owes(9, 500, 200), 10 + 10 - 11 - 11);
        CHECK.due("the last promise changed", court.changed(500, 199, 200), 9);
        CHECK.due("the last promise proved", court.changed(108, 198, 199), 9);
        CHECK.due("which ends another", court.changed(109, 198, 199), 4);
        CHECK.due("nothing changed", court.changed(499, 199, 200), -1);
        CHECK.due("degree", court.degree(11, 10), 99);
        CHECK.due("gaps", court.gaps(11), 14);
    }
}
