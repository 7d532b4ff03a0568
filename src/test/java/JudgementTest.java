/** Promises 18 to 21 and 24: bars, STATES, what is in force, till when, and to whom one is bound. */
public final class JudgementTest {
    private static final Check CHECK = new Check();
    private static final String ALL_PROVED = "proof if 1 == 1;";

    public static void main(String[] args) {
        unproved();
        withoutCondition();
        withCondition();
        conditionFacts();
        barsByDeath();
        barsByRules();
        age();
        leaveGiven();
        deathEnds();
        lapseEnds();
        lapseAndReturn();
        returnsAsKnown();
        lapseBehindLastDay();
        deathAheadOfLapse();
        voidByRival();
        overRules();
        overHasItsOwnVars();
        sameTwo();
        oneDay();
        rivalsByEffect();
        neverInForce();
        nothingEndsByVoid();
        endedAheadOfEffect();
        boundByLeast();
        changedStates();
        wrongInputs();
        CHECK.finish();
    }

    private static void state(String what, PromiseCourt court, int promise, int day, int want) {
        CHECK.due(what + ": state of " + promise + " on " + day, court.state(promise, day, court.count(3)), want);
    }

    /** All five answers of force() with all that is known. */
    private static void force(String what, PromiseCourt court, int promise, int[] want) {
        for (int i = 0; i < want.length; i++) {
            CHECK.due(what + ": force of " + promise + ", " + i, court.force(promise, court.count(3), i), want[i]);
        }
    }

    private static int[] never() {
        return new int[] {-2, -2, -2, -2, -2};
    }

    private static void unproved() {
        PromiseCourt court = CHECK.court(3, "proof if 0 < fame;");
        court.promise(0, 1, 0, 50, 0, -1);
        court.promise(0, 2, 0, 50, 0, 1);
        court.comes(1, 20, false);
        state("unproved", court, 0, 49, 0);
        state("unproved", court, 0, 50, 0);
        state("unproved that fails", court, 1, 9999, 0);
        force("unproved", court, 0, never());
        CHECK.due("unproved is not judged", court.barred(0, 1), -1);
        court.fame(0);
        CHECK.due("before it was told", court.state(0, 50, 1), 0);
        CHECK.due("behind it", court.state(0, 50, 2), 6);
    }

    private static void withoutCondition() {
        PromiseCourt court = CHECK.court(2, ALL_PROVED);
        court.promise(0, 1, 0, 50, 0, -1);
        state("plain", court, 0, 0, 1);
        state("plain", court, 0, 49, 1);
        state("plain", court, 0, 50, 6);
        state("plain", court, 0, 9999, 6);
        force("plain", court, 0, new int[] {50, -1, 0, -1, 0, -1});
    }

    private static void withCondition() {
        PromiseCourt court = CHECK.court(2, ALL_PROVED);
        court.promise(0, 1, 0, 50, 0, 3);
        state("open", court, 0, 0, 2);
        state("open", court, 0, 9999, 2);
        force("open", court, 0, never());
        CHECK.due("open: void by", court.force(0, 0, 5), -1);
        court.comes(2, 60, false);
        state("another condition", court, 0, 9999, 2);
        court.comes(3, 80, true);
        state("met", court, 0, 79, 2);
        state("met", court, 0, 80, 6);
        force("met", court, 0, new int[] {80, -1, 0, -1, 0, -1});
        court.comes(3, 70, false);
        state("fails", court, 0, 69, 2);
        state("fails", court, 0, 70, 3);
        force("fails", court, 0, never());
        CHECK.due("as known ahead of it", court.state(0, 80, 2), 6);
    }

    private static void conditionFacts() {
        PromiseCourt court = CHECK.court(2, ALL_PROVED);
        court.promise(0, 1, 0, 50, 0, 0);
        court.comes(0, 40, true);
        court.comes(0, 40, false);
        state("of one day the first told", court, 0, 49, 2);
        state("at least its own day", court, 0, 50, 6);
        court.comes(0, 39, false);
        state("the earliest, though both are ahead of its day", court, 0, 49, 2);
        state("the earliest, though both are ahead of its day", court, 0, 50, 3);
        court.comes(0, 38, true);
        state("earlier still", court, 0, 50, 6);
    }

    private static void barsByDeath() {
        PromiseCourt court = CHECK.court(3, "bar if 1 == 1; " + ALL_PROVED);
        court.promise(0, 1, 0, 50, 0, -1);
        court.promise(2, 1, 0, 50, 0, 0);
        CHECK.due("a rule", court.barred(0, 0), 0);
        CHECK.due("an open one is not judged", court.barred(1, 0), -1);
        court.fate(0, 1, 51);
        CHECK.due("a death behind", court.barred(0, 1), 0);
        court.fate(0, 1, 50);
        CHECK.due("a death on the day", court.barred(0, 2), -2);
        CHECK.due("as known ahead", court.barred(0, 1), 0);
        state("barred", court, 0, 49, 1);
        state("barred", court, 0, 50, 4);
        force("barred", court, 0, never());
        CHECK.due("barred: void by", court.force(0, 2, 5), -1);
        state("open with a dead one", court, 1, 9999, 2);
        court.comes(0, 9000, false);
        state("fails with a dead one", court, 1, 9000, 3);
        CHECK.due("one that fails is not judged", court.barred(1, 3), -1);
        court.comes(0, 8000, true);
        CHECK.due("met after a death", court.barred(1, 4), -2);
        state("met after a death", court, 1, 8000, 4);
    }

    private static void barsByRules() {
        PromiseCourt court = CHECK.court(2, "proof if 1 == 1; bar if vow == 2; bar if vow == 1 and tense == 1; bar if degree < 2;");
        court.person(0, 1, 10);
        court.promise(0, 1, 0, 50, 0, -1);
        court.promise(0, 1, 0, 60, 1, -1);
        court.promise(2, 0, 0, 60, 0, -1);
        CHECK.due("none holds", court.barred(0, 0), -1);
        CHECK.due("a degree of one", court.barred(2, 0), 3);
        court.fate(1, 0, 51);
        court.fate(1, 0, 55);
        CHECK.due("a vow behind effect", court.barred(0, 2), -1);
        CHECK.due("a vow twice by one", court.barred(1, 2), 2);
        court.fate(1, 1, 60);
        CHECK.due("vows of both by effect", court.barred(1, 3), 1);
        court.fate(1, 1, 61);
        court.fate(1, 0, 50);
        CHECK.due("tense to come, one vow", court.barred(0, 5), -1);
        court.fate(1, 1, 0);
        CHECK.due("both by then", court.barred(0, 6), 1);
    }

    private static void age() {
        PromiseCourt court = CHECK.court(1, "bar if age == 0; bar if age == 1; bar if age == 2; " + ALL_PROVED);
        court.person(-1, -1, 1000);
        court.promise(0, 1, 0, 900, 0, -1);
        court.promise(1, 0, 0, 1364, 0, -1);
        court.promise(0, 1, 0, 1365, 0, -1);
        court.promise(0, 1, 0, 1729, 0, -1);
        court.promise(0, 1, 0, 1730, 0, -1);
        court.promise(0, 1, 0, 10, 0, 0);
        court.comes(0, 1365, true);
        CHECK.due("not yet born", court.barred(0, 1), 0);
        CHECK.due("the day ahead of a year", court.barred(1, 1), 0);
        CHECK.due("a year", court.barred(2, 1), 1);
        CHECK.due("the day ahead of two", court.barred(3, 1), 1);
        CHECK.due("two years", court.barred(4, 1), 2);
        CHECK.due("on effect, not on its own day", court.barred(5, 1), 1);
    }

    private static void leaveGiven() {
        PromiseCourt court = CHECK.court(3, "bar if leave == 0; " + ALL_PROVED);
        court.promise(0, 1, 0, 50, 0, -1);
        court.leave(0, 2, 10);
        court.leave(2, 1, 10);
        court.leave(1, 2, 10);
        court.leave(2, 0, 10);
        CHECK.due("leave for others", court.barred(0, 4), 0);
        court.leave(1, 0, 51);
        CHECK.due("leave too late", court.barred(0, 5), 0);
        court.leave(1, 0, 50);
        CHECK.due("leave on the day, the other way round", court.barred(0, 6), -1);
        CHECK.due("leave that is not yet known", court.barred(0, 5), 0);
        court.promise(1, 2, 0, 9999, 0, -1);
        CHECK.due("leave long ago", court.barred(1, 6), -1);
        CHECK.due("no leave by the last day", court.barred(1, 1), 0);
        PromiseCourt twice = CHECK.court(2, "bar if leave == 1; " + ALL_PROVED);
        twice.promise(0, 1, 0, 50, 0, -1);
        twice.leave(0, 1, 0);
        CHECK.due("leave by the first fact", twice.barred(0, 1), 0);
        twice.leave(0, 1, 5);
        CHECK.due("leave twice is 1", twice.barred(0, 2), 0);
    }

    private static void deathEnds() {
        PromiseCourt court = CHECK.court(2, ALL_PROVED);
        court.promise(0, 1, 0, 50, 0, -1);
        court.fate(0, 1, 100);
        court.fate(0, 0, 80);
        court.fate(0, 1, 90);
        state("death", court, 0, 79, 6);
        state("death", court, 0, 80, 7);
        state("death", court, 0, 9999, 7);
        force("death", court, 0, new int[] {50, 80, 7, -1, 0, -1});
        CHECK.due("as known by two", court.force(0, 1, 1), 100);
        CHECK.due("as known ahead of any death", court.force(0, 0, 1), -1);
        CHECK.due("as known ahead of any death", court.force(0, 0, 2), 0);
        PromiseCourt last = CHECK.court(2, ALL_PROVED);
        last.promise(0, 1, 0, 9998, 0, -1);
        last.fate(0, 0, 9999);
        state("death on the last day", last, 0, 9998, 6);
        state("death on the last day", last, 0, 9999, 7);
    }

    private static void lapseEnds() {
        PromiseCourt court = CHECK.court(2, ALL_PROVED + "lapse 20; lapse 5;");
        court.promise(0, 1, 0, 50, 0, -1);
        court.fate(2, 1, 60);
        state("lapse", court, 0, 79, 6);
        state("lapse", court, 0, 80, 8);
        force("lapse", court, 0, new int[] {50, 80, 8, -1, 0, -1});
        court.fate(2, 0, 31);
        state("away from ahead of effect", court, 0, 50, 6);
        state("away from ahead of effect", court, 0, 51, 8);
        court.fate(2, 0, 30);
        state("lapsed on effect", court, 0, 49, 1);
        state("lapsed on effect", court, 0, 50, 8);
        force("lapsed on effect", court, 0, never());
        PromiseCourt without = CHECK.court(2, ALL_PROVED);
        without.promise(0, 1, 0, 50, 0, -1);
        without.fate(2, 1, 60);
        state("without a lapse rule", without, 0, 9999, 6);
        PromiseCourt ahead = CHECK.court(2, "lapse 20;" + ALL_PROVED);
        ahead.promise(0, 1, 0, 50, 0, -1);
        ahead.fate(2, 1, 60);
        state("a lapse rule as the first", ahead, 0, 80, 8);
        CHECK.due("an absence that is not yet known", ahead.state(0, 80, 0), 6);
        PromiseCourt atOnce = CHECK.court(2, ALL_PROVED + "lapse 0;");
        atOnce.promise(0, 1, 0, 50, 0, -1);
        atOnce.fate(2, 1, 60);
        state("lapse 0", atOnce, 0, 59, 6);
        state("lapse 0", atOnce, 0, 60, 8);
    }

    private static void lapseAndReturn() {
        PromiseCourt court = CHECK.court(3, ALL_PROVED + "lapse 20;");
        court.promise(0, 1, 0, 50, 0, -1);
        court.fate(2, 1, 60);
        court.fate(3, 0, 70);
        state("another one's return", court, 0, 80, 8);
        court.fate(3, 1, 59);
        court.fate(3, 1, 81);
        state("a return ahead and one too late", court, 0, 80, 8);
        court.fate(3, 1, 80);
        state("a return on the very day", court, 0, 9999, 6);
        court.fate(2, 1, 200);
        state("away again", court, 0, 219, 6);
        state("away again", court, 0, 220, 8);
        court.fate(3, 1, 200);
        state("a return on the day of leaving", court, 0, 9999, 6);
        court.fate(3, 1, 40);
        court.fate(2, 1, 10);
        court.fate(2, 1, 40);
        state("away long ago, back ahead of effect", court, 0, 9999, 6);
        court.fate(2, 1, 82);
        state("away behind the return", court, 0, 101, 6);
        state("away behind the return", court, 0, 102, 8);
    }

    private static void returnsAsKnown() {
        PromiseCourt court = CHECK.court(2, ALL_PROVED + "lapse 20;");
        court.promise(0, 1, 0, 50, 0, -1);
        court.fate(3, 0, 65);
        court.fate(2, 0, 60);
        court.fate(3, 0, 101);
        court.fate(2, 0, 85);
        court.fate(3, 0, 90);
        CHECK.due("a return told first", court.state(0, 9999, 2), 6);
        CHECK.due("a return told ahead of a later absence", court.state(0, 104, 4), 6);
        CHECK.due("a return too early told last", court.state(0, 105, 5), 6);
        PromiseCourt late = CHECK.court(2, ALL_PROVED + "lapse 20;");
        late.promise(0, 1, 0, 50, 0, -1);
        late.fate(2, 0, 60);
        late.fate(3, 0, 70);
        CHECK.due("a return that is not yet known", late.state(0, 80, 1), 8);
        CHECK.due("a return that is known", late.state(0, 80, 2), 6);
    }

    private static void lapseBehindLastDay() {
        PromiseCourt court = CHECK.court(2, ALL_PROVED + "lapse 9999;");
        court.promise(0, 1, 0, 50, 0, -1);
        court.fate(2, 1, 1);
        state("a lapse behind the last day", court, 0, 9999, 6);
        force("a lapse behind the last day", court, 0, new int[] {50, -1, 0, -1, 0, -1});
        court.fate(2, 1, 0);
        state("a lapse on the last day", court, 0, 9998, 6);
        state("a lapse on the last day", court, 0, 9999, 8);
        force("a lapse on the last day", court, 0, new int[] {50, 9999, 8, -1, 0, -1});
    }

    private static void deathAheadOfLapse() {
        PromiseCourt court = CHECK.court(2, ALL_PROVED + "lapse 20;");
        court.promise(0, 1, 0, 50, 0, -1);
        court.fate(2, 1, 60);
        court.fate(0, 1, 81);
        force("the lapse is earlier", court, 0, new int[] {50, 80, 8, -1, 0, -1});
        court.fate(0, 1, 80);
        force("of one day death", court, 0, new int[] {50, 80, 7, -1, 0, -1});
    }

    private static void voidByRival() {
        PromiseCourt court = CHECK.court(4, ALL_PROVED);
        court.promise(0, 1, 0, 60, 0, -1);
        court.promise(2, 0, 0, 50, 0, -1);
        court.promise(2, 3, 0, 55, 0, -1);
        court.promise(1, 3, 0, 70, 0, -1);
        state("the earlier stands", court, 1, 9999, 6);
        state("void", court, 0, 59, 1);
        state("void", court, 0, 60, 5);
        force("void", court, 0, new int[] {-2, -2, -2, -2, -2, 1});
        force("void", court, 2, new int[] {-2, -2, -2, -2, -2, 1});
        state("a void one is no rival", court, 3, 70, 6);
        CHECK.due("the one in force: void by", court.force(1, 0, 5), -1);
        CHECK.due("a void one is not barred", court.barred(0, 0), -1);
    }

    private static void overRules() {
        PromiseCourt court = CHECK.court(4, ALL_PROVED + "over if old == 0 and tense == 1 and days == 30;");
        Check.read(court, ALL_PROVED + "over if old == 1 and tense == 0;", 1, 0);
        court.promise(0, 1, 0, 50, 0, -1);
        court.promise(2, 0, 0, 79, 1, -1);
        court.promise(2, 0, 0, 80, 1, -1);
        court.promise(1, 3, 0, 80, 0, -1);
        state("days of 29", court, 1, 79, 5);
        state("over", court, 0, 79, 6);
        state("over", court, 0, 80, 9);
        force("over", court, 0, new int[] {50, 80, 9, 2, 1, -1});
        state("the new one", court, 2, 80, 6);
        state("free on the day on which it ends", court, 3, 80, 6);
        court.promise(3, 2, 1, 90, 0, -1);
        state("by the new one's law, the least rival first", court, 4, 90, 5);
        CHECK.due("void by", court.force(4, 0, 5), 3);
        court.promise(2, 1, 1, 79, 0, -1);
        CHECK.due("the rival that stands then", court.force(5, 0, 5), 0);
        court.fate(0, 1, 85);
        state("a rival less", court, 4, 90, 6);
        force("broken by the first of both", court, 2, new int[] {80, 90, 9, 4, 1, -1});
        force("ended by death ahead", court, 3, new int[] {80, 85, 7, -1, 0, -1});
    }

    /** What the bars were judged by is 0 for the over RULES. */
    private static void overHasItsOwnVars() {
        PromiseCourt court = CHECK.court(3, "proof if fame == 1; bar if 5 < degree * 0;"
            + "over if degree + vow + leave + age + fame + yes + no + kin + why == 0;");
        court.promise(0, 1, 0, 5000, 0, -1);
        court.promise(0, 2, 0, 6000, 0, -1);
        court.fame(0);
        court.fame(1);
        court.fate(1, 2, 10);
        court.leave(0, 2, 10);
        state("over by none of the others", court, 1, 6000, 6);
        state("over by none of the others", court, 0, 6000, 9);
    }

    private static void sameTwo() {
        PromiseCourt court = CHECK.court(3, ALL_PROVED);
        court.promise(0, 1, 0, 50, 1, -1);
        court.promise(1, 0, 0, 60, 0, -1);
        court.promise(0, 1, 0, 70, 0, -1);
        force("anew", court, 0, new int[] {50, 60, 9, 1, 0, -1});
        force("anew", court, 1, new int[] {60, 70, 9, 2, 0, -1});
        force("anew", court, 2, new int[] {70, -1, 0, -1, 0, -1});
        state("anew", court, 0, 59, 6);
        state("anew", court, 0, 60, 9);
    }

    private static void oneDay() {
        PromiseCourt court = CHECK.court(3, ALL_PROVED + "over if days == 0;");
        court.promise(0, 1, 0, 50, 0, -1);
        court.promise(2, 1, 0, 50, 0, -1);
        state("of one day by numbers", court, 0, 50, 9);
        force("ends on its effect", court, 0, never());
        force("the later number", court, 1, new int[] {50, -1, 0, -1, 0, -1});
        court.promise(2, 0, 0, 50, 0, -1);
        state("ended ones are no rivals", court, 1, 50, 9);
        state("the third", court, 2, 50, 6);
        PromiseCourt strict = CHECK.court(3, ALL_PROVED);
        strict.promise(0, 1, 0, 50, 0, -1);
        strict.promise(2, 1, 0, 50, 0, -1);
        state("the lesser number stands", strict, 0, 50, 6);
        state("the greater is void", strict, 1, 50, 5);
    }

    /** Days are those of EFFECT, not of the words. */
    private static void rivalsByEffect() {
        PromiseCourt court = CHECK.court(3, ALL_PROVED + "over if days == 20;");
        court.promise(0, 1, 0, 10, 0, 1);
        court.promise(0, 2, 0, 20, 0, -1);
        state("while it is open", court, 1, 20, 6);
        court.comes(1, 40, true);
        state("a condition met later", court, 0, 40, 6);
        force("a condition met later", court, 1, new int[] {20, 40, 9, 0, 1, -1});
        court.comes(1, 39, true);
        state("too early for the law", court, 0, 39, 5);
        state("too early for the law", court, 1, 9999, 6);
    }

    /** One that lapses on its EFFECT was never in force, but its rivals have ended by it. */
    private static void neverInForce() {
        PromiseCourt court = CHECK.court(3, ALL_PROVED + "over if 1 == 1;");
        Check.read(court, ALL_PROVED + "over if 1 == 1; lapse 5;", 1, 0);
        court.promise(0, 1, 0, 50, 0, -1);
        court.promise(2, 1, 1, 60, 0, -1);
        court.promise(0, 2, 0, 70, 0, -1);
        court.fate(2, 2, 10);
        state("lapsed at once", court, 1, 60, 8);
        force("lapsed at once", court, 1, never());
        force("its rival", court, 0, new int[] {50, 60, 9, 1, 2, -1});
        state("no rival later", court, 2, 70, 6);
    }

    private static void nothingEndsByVoid() {
        PromiseCourt court = CHECK.court(4, ALL_PROVED + "over if old == 0;");
        court.promise(0, 1, 0, 50, 0, -1);
        court.promise(2, 3, 0, 50, 1, -1);
        court.promise(1, 2, 0, 60, 0, -1);
        state("one yields, one does not", court, 2, 60, 5);
        CHECK.due("void by", court.force(2, 0, 5), 1);
        state("nothing ends", court, 0, 9999, 6);
        state("nothing ends", court, 1, 9999, 6);
        Check.read(court, ALL_PROVED + "over if 1 == 1;", 0, 60);
        force("both yield", court, 0, new int[] {50, 60, 9, 2, 2, -1});
        force("both yield", court, 1, new int[] {50, 60, 9, 2, 1, -1});
        PromiseCourt same = CHECK.court(3, ALL_PROVED);
        same.promise(0, 1, 0, 50, 0, -1);
        same.promise(1, 2, 1, 50, 0, -1);
        Check.read(same, ALL_PROVED + "over if 1 == 1;", 1, 0);
        same.promise(0, 1, 0, 60, 0, -1);
        state("over on one day", same, 0, 50, 9);
        state("the same two against another", same, 2, 60, 5);
    }

    private static void endedAheadOfEffect() {
        PromiseCourt court = CHECK.court(3, ALL_PROVED + "lapse 10;");
        court.promise(0, 1, 0, 50, 0, -1);
        court.promise(0, 2, 0, 70, 0, -1);
        court.fate(2, 1, 61);
        state("a day too late", court, 1, 70, 5);
        court.fate(2, 1, 60);
        state("lapsed on that day", court, 1, 70, 6);
        PromiseCourt death = CHECK.court(3, ALL_PROVED);
        death.promise(0, 1, 0, 50, 0, -1);
        death.promise(0, 2, 0, 70, 0, -1);
        death.fate(0, 1, 71);
        state("a death a day too late", death, 1, 70, 5);
        death.fate(0, 1, 70);
        state("a death on that day", death, 1, 70, 6);
    }

    private static void boundByLeast() {
        PromiseCourt court = CHECK.court(4, ALL_PROVED);
        court.promise(2, 3, 0, 10, 0, -1);
        court.promise(1, 0, 0, 50, 0, -1);
        CHECK.due("ahead of it", court.bound(0, 49, 0), -1);
        CHECK.due("the second", court.bound(0, 50, 0), 1);
        CHECK.due("the first", court.bound(1, 50, 0), 0);
        CHECK.due("another couple", court.bound(3, 50, 0), 2);
        court.fate(0, 0, 60);
        CHECK.due("on the day of an end", court.bound(1, 60, 1), -1);
        CHECK.due("as known ahead", court.bound(1, 60, 0), 0);
        CHECK.due("person -1", court.bound(-1, 50, 0), -1);
        CHECK.due("person 4", court.bound(4, 50, 0), -1);
        CHECK.due("day -1", court.bound(0, -1, 0), -1);
        CHECK.due("day 10000", court.bound(0, 10000, 0), -1);
        CHECK.due("n -1", court.bound(0, 50, -1), -1);
        CHECK.due("n 2", court.bound(0, 50, 2), -1);
    }

    private static void changedStates() {
        PromiseCourt court = CHECK.court(4, ALL_PROVED);
        court.promise(0, 1, 0, 50, 0, -1);
        court.promise(2, 3, 0, 50, 0, -1);
        court.promise(2, 1, 0, 80, 0, -1);
        court.fate(0, 3, 70);
        court.fate(0, 0, 60);
        CHECK.due("the second", court.changed(70, 0, 1), 1);
        CHECK.due("a day ahead", court.changed(69, 0, 1), -1);
        CHECK.due("the first", court.changed(70, 0, 2), 0);
        CHECK.due("backwards", court.changed(70, 2, 0), 0);
        CHECK.due("by the second fact alone", court.changed(60, 1, 2), 0);
        CHECK.due("no fact between", court.changed(70, 1, 1), -1);
        CHECK.due("the day -1", court.changed(-1, 0, 1), -1);
        CHECK.due("the day 10000", court.changed(10000, 0, 2), -1);
        CHECK.due("n -1", court.changed(70, -1, 2), -1);
        CHECK.due("m -1", court.changed(70, 2, -1), -1);
        CHECK.due("n 3", court.changed(70, 3, 0), -1);
        CHECK.due("m 3", court.changed(70, 0, 3), -1);
        CHECK.due("a rival's end changes the third", court.state(2, 80, 2), 6);
        CHECK.due("as known ahead", court.state(2, 80, 0), 5);
    }

    private static void wrongInputs() {
        PromiseCourt court = CHECK.court(2, ALL_PROVED);
        court.promise(0, 1, 0, 0, 0, -1);
        court.fame(0);
        CHECK.due("state", court.state(0, 0, 1), 6);
        CHECK.due("state: promise -1", court.state(-1, 0, 1), -1);
        CHECK.due("state: promise 1", court.state(1, 0, 1), -1);
        CHECK.due("state: day -1", court.state(0, -1, 1), -1);
        CHECK.due("state: day 10000", court.state(0, 10000, 1), -1);
        CHECK.due("state: n -1", court.state(0, 0, -1), -1);
        CHECK.due("state: n 2", court.state(0, 0, 2), -1);
        CHECK.due("force", court.force(0, 1, 0), 0);
        CHECK.due("force: promise -1", court.force(-1, 0, 0), -3);
        CHECK.due("force: promise 1", court.force(1, 0, 5), -3);
        CHECK.due("force: n -1", court.force(0, -1, 0), -3);
        CHECK.due("force: n 2", court.force(0, 2, 5), -3);
        CHECK.due("force: what -1", court.force(0, 0, -1), -3);
        CHECK.due("force: what 6", court.force(0, 0, 6), -3);
        CHECK.due("force: what greatest", court.force(0, 0, Integer.MAX_VALUE), -3);
        CHECK.due("barred: promise -1", court.barred(-1, 0), -1);
        CHECK.due("barred: promise 1", court.barred(1, 0), -1);
        court.fate(0, 0, 0);
        CHECK.due("barred", court.barred(0, 2), -2);
        CHECK.due("barred: n 3", court.barred(0, 3), -1);
        CHECK.due("barred: n -1", court.barred(0, -1), -1);
    }
}
