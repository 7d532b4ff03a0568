/** Promises 16 and 17, and RULES' reckoning: which law it is, and which proof RULE holds. */
public final class ProofTest {
    private static final Check CHECK = new Check();

    public static void main(String[] args) {
        lawsByDayAndPlace();
        reckoning();
        witnesses();
        kin();
        varsOfOtherSorts();
        ruleNumbers();
        wrongInputs();
        CHECK.finish();
    }

    private static void lawsByDayAndPlace() {
        PromiseCourt court = new PromiseCourt();
        Check.strangers(court, 2);
        court.promise(0, 1, 0, 99, 0, -1);
        court.promise(0, 1, 0, 100, 0, -1);
        court.promise(0, 1, 0, 9999, 0, -1);
        court.promise(0, 1, 3, 100, 0, 2);
        CHECK.due("no law at all", court.law(1), -1);
        CHECK.due("no rule holds", court.proved(1, 0), -1);
        Check.read(court, "proof if 1 == 1;", 0, 100);
        CHECK.due("a day ahead of it", court.law(0), -1);
        CHECK.due("on its day", court.law(1), 0);
        CHECK.due("long behind", court.law(2), 0);
        CHECK.due("another place", court.law(3), -1);
        CHECK.due("unproved without a law", court.proved(0, 0), -1);
        CHECK.due("proved with one", court.proved(1, 0), 0);
        Check.read(court, "x", 0, 100);
        CHECK.due("a text with a fault is none", court.law(1), 0);
        Check.read(court, "", 0, 100);
        CHECK.due("of one day the last read", court.law(1), 1);
        CHECK.due("which proves nothing", court.proved(1, 0), -1);
        Check.read(court, "", 0, 50);
        CHECK.due("an earlier one read later", court.law(0), 2);
        CHECK.due("does not reach past the next", court.law(1), 1);
        Check.read(court, "", 0, 9999);
        CHECK.due("the last day", court.law(2), 3);
        Check.read(court, "", 3, 100);
        CHECK.due("by the promise's own day", court.law(3), 4);
        CHECK.due("promise -1", court.law(-1), -1);
        CHECK.due("promise 4", court.law(4), -1);
    }

    /** Whether a COND holds for a promise of tense 1 with two fames. */
    private static void cond(String cond, boolean holds) {
        PromiseCourt court = new PromiseCourt();
        Check.strangers(court, 2);
        court.promise(0, 1, 0, 0, 1, -1);
        court.fame(0);
        court.fame(0);
        Check.read(court, "proof if " + cond + ";", 0, 0);
        CHECK.due(cond, court.proved(0, 2), holds ? 0 : -1);
    }

    private static void reckoning() {
        cond("fame == 2", true);
        cond("fame != 2", false);
        cond("fame < 2", false);
        cond("fame <= 2", true);
        cond("1 < fame", true);
        cond("3 <= fame", false);
        cond("tense == 1", true);
        cond("1 + 2 * 3 == 7", true);
        cond("(1 + 2) * 3 == 9", true);
        cond("10 - 3 - 2 == 5", true);
        cond("10 - (3 - 2) == 9", true);
        cond("2 * 3 - 4 * 5 + 6 == 0 - 8", true);
        cond("0 - 2 * 3 * 4 == 0 - 24", true);
        cond("2 * (3 - (4 + fame) * (1 - 2)) == 18", true);
        cond("((((((7)))))) - 1 == 6", true);
        cond("0 < 9999 * 9999 * 21", true);
        cond("9999 * 9999 * 22 < 0", true);
        cond("9999 * 9999 * 43 == 4172 * 1000 + 747", true);
        cond("1 == 2 and 1 == 2 or 1 == 1", true);
        cond("1 == 1 or 1 == 2 and 1 == 2", true);
        cond("1 == 1 and 1 == 2 or 1 == 2", false);
        cond("1 == 2 or 1 == 1 and 1 == 1", true);
        cond("1 == 2 or 1 == 1 and 1 == 2", false);
        cond("1 == 2 and 1 == 1", false);
        cond("0000 == 0", true);
    }

    private static void witnesses() {
        PromiseCourt court = new PromiseCourt();
        Check.strangers(court, 3);
        court.promise(0, 1, 0, 0, 0, -1);
        court.promise(1, 2, 0, 0, 0, -1);
        Check.read(court, "proof if yes == 2 and no == 1; proof if yes == 1 and no == 2; proof if yes == 3; proof if fame == 1;", 0, 0);
        court.says(100, 0, true);
        court.says(101, 0, true);
        court.says(119, 0, false);
        court.says(100, 0, true);
        court.says(101, 0, false);
        court.says(101, 0, true);
        court.says(119, 0, true);
        court.says(2, 0, false);
        court.says(100, 1, false);
        court.fame(1);
        CHECK.due("none yet", court.proved(0, 2), -1);
        CHECK.due("two yes, a no", court.proved(0, 3), 0);
        CHECK.due("said again", court.proved(0, 4), 0);
        CHECK.due("said otherwise", court.proved(0, 5), 1);
        CHECK.due("each as it said last", court.proved(0, 6), 0);
        CHECK.due("three yes", court.proved(0, 7), 2);
        CHECK.due("a person who is no kin", court.proved(0, 8), 2);
        CHECK.due("of another promise", court.proved(0, 9), 2);
        CHECK.due("its own words", court.proved(1, 9), -1);
        CHECK.due("its own fame", court.proved(1, 10), 3);
        CHECK.due("not the other's fame", court.proved(0, 10), 2);
    }

    /** A line of eleven: degrees from the one that promises grow step by step. */
    private static void kin() {
        PromiseCourt court = new PromiseCourt();
        court.person(-1, -1, 0);
        for (int i = 1; i < 11; i++) {
            court.person(i - 1, -1, i);
        }
        court.person(-1, -1, 0);
        court.promise(5, 11, 0, 0, 0, -1);
        court.promise(11, 5, 0, 0, 0, -1);
        Check.read(court, "proof if kin == 1 and yes == 0 and no == 0; proof if yes == 1 and kin == 0; proof if no == 1; "
            + "proof if kin == 2;", 0, 0);
        for (int p = 0; p < 2; p++) {
            int before = court.count(3);
            court.says(1, p, true);
            CHECK.due("a forebear at four steps", court.proved(p, before + 1), 0);
            court.says(9, p, true);
            CHECK.due("one more at four", court.proved(p, before + 2), 3);
            court.says(1, p, false);
            CHECK.due("a no of kin counts nowhere", court.proved(p, before + 3), 0);
            court.says(9, p, false);
            CHECK.due("nor two", court.proved(p, before + 4), -1);
            court.says(0, p, true);
            CHECK.due("at five steps no kin", court.proved(p, before + 5), 1);
            court.says(0, p, false);
            CHECK.due("whose no counts", court.proved(p, before + 6), 2);
        }
    }

    private static void varsOfOtherSorts() {
        PromiseCourt court = new PromiseCourt();
        Check.strangers(court, 2);
        court.fate(1, 0, 0);
        court.leave(0, 1, 0);
        court.promise(0, 1, 0, 9000, 1, -1);
        Check.read(court, "proof if age + degree + vow + leave + old + why + days != 0; proof if tense == 1;", 0, 0);
        CHECK.due("vars that proof has not are 0", court.proved(0, 2), 1);
        Check.read(court, "bar if yes + no + kin + fame + old + why + days != 0; proof if 0 < fame; bar if 99 == degree;", 0, 0);
        court.fame(0);
        court.says(100, 0, true);
        court.says(101, 0, false);
        CHECK.due("vars that bar has not are 0", court.barred(0, 5), 2);
    }

    private static void ruleNumbers() {
        PromiseCourt court = new PromiseCourt();
        Check.strangers(court, 2);
        court.promise(0, 1, 0, 0, 0, -1);
        Check.read(court, "bar if 1 == 1; lapse 3; back 1; over if 1 == 1; proof if 1 == 2; proof if 1 == 1; proof if 2 == 2;", 0, 0);
        CHECK.due("rules of all sorts are numbered", court.proved(0, 0), 5);
        Check.read(court, Check.times(15, "proof if 1 == 2;") + "proof if 1 == 1;", 0, 0);
        CHECK.due("the sixteenth rule", court.proved(0, 0), 15);
    }

    private static void wrongInputs() {
        PromiseCourt court = new PromiseCourt();
        Check.strangers(court, 2);
        court.promise(0, 1, 0, 0, 0, -1);
        Check.read(court, "proof if 1 == 1;", 0, 0);
        court.fame(0);
        CHECK.due("n 0", court.proved(0, 0), 0);
        CHECK.due("n 1", court.proved(0, 1), 0);
        CHECK.due("n 2", court.proved(0, 2), -1);
        CHECK.due("n -1", court.proved(0, -1), -1);
        CHECK.due("promise -1", court.proved(-1, 0), -1);
        CHECK.due("promise 1", court.proved(1, 0), -1);
        CHECK.due("extremes", court.proved(Integer.MAX_VALUE, Integer.MIN_VALUE), -1);
    }
}
