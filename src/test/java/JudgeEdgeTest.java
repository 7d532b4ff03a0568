/** Promises 18, 19, 21 and 24 at their edges: the DAY of EFFECT, one ahead and one behind it, and wrong inputs. */
public final class JudgeEdgeTest {
    private static final Check CHECK = new Check();
    private static final int LEAST = Integer.MIN_VALUE;
    private static final int GREATEST = Integer.MAX_VALUE;
    private static final String PROVED = Courts.ALL_PROVED;
    // Of Courts.told(), which has five persons, four promises and nine facts.
    private static final int[] NO_PROMISES = {-1, -2, 4, 5, 9, 10, LEAST, GREATEST};
    private static final int[] NO_PERSONS = {-1, -2, 5, 6, 11, 12, 100, LEAST, GREATEST};
    private static final int[] NO_DAYS = {-1, -2, 10000, 10001, LEAST, GREATEST};
    private static final int[] NO_FACTS = {-1, -2, 10, 11, 200, 201, LEAST, GREATEST};

    public static void main(String[] args) {
        promise18DiesByEffect();
        promise18DeathIsAheadOfAnyRule();
        promise18VowsByEffect();
        promise18LeaveByEffect();
        promise18FullYears();
        promise18DegreeAndTense();
        promise18VarsThatBarHasNot();
        promise18FirstAndLastRule();
        promise18NotJudged();
        promise18NoSuchOnes();
        promise19NotProved();
        promise19AheadOfEffect();
        promise19OpenForEver();
        promise19EffectIsAtLeastItsOwnDay();
        promise19EarliestOfTheFacts();
        promise19OfOneDayTheOneToldFirst();
        promise19OpenWhateverComes();
        promise19EndsOnThatDayOrAhead();
        promise19NoSuchOnes();
        promise21FromEffectTillItEnds();
        promise21FirstAndLastDay();
        promise21NoSuchOnes();
        promise24AnotherState();
        promise24FirstOfAll();
        promise24NoneOfTen();
        promise24NoSuchOnes();
        CHECK.finish();
    }

    /** A court with a law, and a promise of 0 and 1 in force from 500 on, if nothing stands against it. */
    private static PromiseCourt couple(String law) {
        PromiseCourt court = CHECK.court(3, law);
        court.promise(0, 1, 0, 500, 0, -1);
        return court;
    }

    private static void barred(String what, PromiseCourt court, int want) {
        CHECK.due("promise 18: " + what, court.barred(0, court.count(3)), want);
    }

    private static void state(String what, PromiseCourt court, int day, int want) {
        CHECK.due("promise 19: " + what + " on " + day, court.state(0, day, court.count(3)), want);
    }

    private static void promise18DiesByEffect() {
        int[] days = {0, 499, 500, 501, 9999};
        int[] bars = {-2, -2, -2, -1, -1};
        for (int i = 0; i < days.length; i++) {
            for (int person = 0; person < 3; person++) {
                PromiseCourt court = couple(PROVED);
                court.fate(0, person, days[i]);
                barred(person + " dies on " + days[i], court, person == 2 ? -1 : bars[i]);
                CHECK.due("promise 18: ahead of that fact", court.barred(0, 0), -1);
                CHECK.due("promise 19: " + person + " dies on " + days[i], court.state(0, 500, 1), person < 2 && bars[i] == -2 ? 4 : 6);
            }
        }
        PromiseCourt late = CHECK.court(2, PROVED);
        late.promise(0, 1, 0, 100, 0, 3);
        late.comes(3, 500, true);
        late.fate(0, 1, 500);
        barred("dies on the day on which its condition is met", late, -2);
        PromiseCourt last = CHECK.court(2, PROVED);
        last.promise(0, 1, 0, 9999, 0, -1);
        last.fate(0, 1, 9999);
        barred("dies on the last day", last, -2);
        PromiseCourt first = CHECK.court(2, PROVED);
        first.promise(0, 1, 0, 0, 0, -1);
        first.fate(0, 1, 0);
        barred("dies on the first day", first, -2);
    }

    private static void promise18DeathIsAheadOfAnyRule() {
        PromiseCourt court = couple("bar if 1 == 1;" + PROVED);
        court.fate(0, 0, 501);
        barred("a rule, and a death behind effect", court, 0);
        court.fate(0, 0, 500);
        barred("a rule, and a death on effect", court, -2);
    }

    private static void promise18VowsByEffect() {
        String law = PROVED + "bar if vow == 0; bar if vow == 1; bar if vow == 2;";
        int[] days = {0, 499, 500, 501, 9999};
        for (int one : days) {
            for (int other : days) {
                PromiseCourt court = couple(law);
                court.fate(1, 2, 0);
                barred("nobody vows", court, 1);
                court.fate(1, 0, one);
                court.fate(1, 1, other);
                barred("vows on " + one + " and " + other, court, 1 + (one <= 500 ? 1 : 0) + (other <= 500 ? 1 : 0));
            }
            PromiseCourt twice = couple(law);
            twice.fate(1, 1, one);
            twice.fate(1, 1, 3);
            barred("one vows twice", twice, 2);
        }
    }

    private static void promise18LeaveByEffect() {
        String law = PROVED + "bar if leave == 0; bar if leave == 1;";
        for (int day : new int[] {0, 499, 500, 501, 9999}) {
            PromiseCourt court = couple(law);
            int[][] others = {{0, 2}, {2, 0}, {1, 2}, {2, 1}};
            for (int[] other : others) {
                court.leave(other[0], other[1], 0);
                barred("leave for others", court, 1);
            }
            court.leave(1, 0, day);
            barred("leave from " + day + " on", court, day <= 500 ? 2 : 1);
            court.leave(0, 1, day);
            barred("leave twice from " + day + " on", court, day <= 500 ? 2 : 1);
        }
        PromiseCourt last = CHECK.court(2, law);
        last.promise(0, 1, 0, 9999, 0, -1);
        barred("no leave by the last day", last, 1);
        last.leave(0, 1, 9999);
        barred("leave on the last day", last, 2);
    }

    private static void promise18FullYears() {
        int[][] rows = {{1000, 1000, 0}, {1000, 1364, 0}, {1000, 1365, 1}, {1000, 1729, 1}, {1000, 1730, 2}, {0, 9999, 27},
            {0, 9855, 27}, {0, 9854, 26}, {1000, 999, 0}, {1000, 636, 0}, {1000, 635, 0}, {1000, 634, 0}, {1000, 0, 0}, {9999, 0, 0}};
        for (int[] row : rows) {
            for (int side = 0; side < 2; side++) {
                PromiseCourt court = CHECK.court(1, PROVED + "bar if age < 0; bar if age == " + row[2] + ";");
                court.person(-1, -1, row[0]);
                court.promise(side, 1 - side, 0, row[1], 0, -1);
                barred("born on " + row[0] + ", on " + row[1], court, 2);
            }
        }
        PromiseCourt late = CHECK.court(2, PROVED + "bar if age == 0; bar if age == 1;");
        late.promise(0, 1, 0, 0, 0, 0);
        late.comes(0, 365, true);
        barred("a year on effect", late, 2);
        late.comes(0, 364, true);
        barred("a day less than a year on effect", late, 1);
    }

    private static void promise18DegreeAndTense() {
        PromiseCourt court = couple(PROVED + "bar if degree == 99 and tense == 0;");
        barred("nobody in common, tense 0", court, 1);
        PromiseCourt child = CHECK.court(2, PROVED + "bar if degree == 1 and tense == 1;");
        child.person(0, 1, 10);
        child.promise(2, 1, 0, 500, 1, -1);
        barred("a mother, tense 1", child, 1);
    }

    private static void promise18VarsThatBarHasNot() {
        for (String var : new String[] {"yes", "no", "kin", "fame", "old", "why", "days"}) {
            PromiseCourt court = CHECK.court(2, PROVED + "bar if " + var + " != 0; bar if " + var + " == 0 and degree == 1;");
            court.person(0, 1, 10);
            court.promise(2, 0, 0, 500, 1, -1);
            court.says(100, 0, true);
            court.says(101, 0, false);
            court.says(1, 0, true);
            court.fame(0);
            barred(var + " is 0", court, 2);
        }
    }

    private static void promise18FirstAndLastRule() {
        barred("the first rule", couple("bar if 1 == 1; bar if 1 == 1;" + PROVED), 0);
        barred("the last rule", couple(PROVED + Check.times(14, "bar if 1 == 2;") + "bar if 1 == 1;"), 15);
        barred("no rule", couple(PROVED + Check.times(15, "bar if 1 == 2;")), -1);
        barred("no bar rule", couple(PROVED), -1);
    }

    private static void promise18NotJudged() {
        String bar = "bar if 1 == 1;";
        PromiseCourt unproved = couple("proof if fame == 1;" + bar);
        unproved.fate(0, 0, 0);
        barred("not proved", unproved, -1);
        unproved.fame(0);
        barred("proved", unproved, -2);
        PromiseCourt open = CHECK.court(2, PROVED + bar);
        open.promise(0, 1, 0, 500, 0, 5);
        open.fate(0, 0, 0);
        barred("open", open, -1);
        open.comes(5, 600, false);
        barred("fails", open, -1);
        open.comes(5, 599, true);
        barred("met", open, -2);
        PromiseCourt held = CHECK.court(3, PROVED);
        held.promise(0, 1, 0, 500, 0, -1);
        held.promise(0, 2, 0, 400, 0, -1);
        barred("void", held, -1);
    }

    private static void promise18NoSuchOnes() {
        Twins twins = new Twins(CHECK, "promise 18", Courts::told);
        for (int none : NO_PROMISES) {
            twins.refused("barred(" + none + ", 9)", -1, court -> court.barred(none, 9));
        }
        PromiseCourt bars = couple(PROVED + "bar if 1 == 1;");
        bars.fame(0);
        for (int none : new int[] {-1, -2, 2, 3, 200, LEAST, GREATEST}) {
            CHECK.due("promise 18: barred(0, " + none + ") of 1", bars.barred(0, none), -1);
        }
        CHECK.due("promise 18: of 0", bars.barred(0, 0), 1);
        CHECK.due("promise 18: of 1", bars.barred(0, 1), 1);
        CHECK.due("promise 18: promise 1 of 1", bars.barred(1, 1), -1);
    }

    private static void promise19NotProved() {
        PromiseCourt court = couple("proof if fame == 1;");
        for (int day : new int[] {0, 499, 500, 501, 9999}) {
            state("not proved", court, day, 0);
        }
        court.fame(0);
        state("proved", court, 500, 6);
        CHECK.due("promise 19: as known by none", court.state(0, 500, 0), 0);
        court.fame(0);
        state("proved no more", court, 500, 0);
        CHECK.due("promise 19: as known by 1", court.state(0, 500, 1), 6);
    }

    private static void promise19AheadOfEffect() {
        for (int effect : new int[] {0, 1, 500, 9999}) {
            PromiseCourt court = CHECK.court(2, PROVED);
            court.promise(0, 1, 0, effect, 0, -1);
            if (effect > 0) {
                state("the first day", court, 0, 1);
                state("a day ahead", court, effect - 1, 1);
            }
            state("its effect", court, effect, 6);
            state("the last day", court, 9999, 6);
        }
    }

    private static void promise19OpenForEver() {
        PromiseCourt court = CHECK.court(2, PROVED);
        court.promise(0, 1, 0, 500, 0, 0);
        for (int condition = 1; condition < 6; condition++) {
            court.comes(condition, 0, condition % 2 == 0);
        }
        for (int day : new int[] {0, 499, 500, 501, 9999}) {
            state("open", court, day, 2);
        }
    }

    private static void promise19EffectIsAtLeastItsOwnDay() {
        for (int day : new int[] {0, 499, 500, 501, 9999}) {
            int effect = Math.max(500, day);
            PromiseCourt met = CHECK.court(2, PROVED);
            met.promise(0, 1, 0, 500, 0, 0);
            met.comes(0, day, true);
            state("met on " + day + ", ahead", met, effect - 1, 2);
            state("met on " + day, met, effect, 6);
            CHECK.due("promise 20: met on " + day, met.force(0, 1, 0), effect);
            PromiseCourt fails = CHECK.court(2, PROVED);
            fails.promise(0, 1, 0, 500, 0, 0);
            fails.comes(0, day, false);
            state("fails on " + day + ", ahead", fails, effect - 1, 2);
            state("fails on " + day, fails, effect, 3);
            state("fails on " + day + ", long behind", fails, 9999, 3);
        }
    }

    private static void promise19EarliestOfTheFacts() {
        for (int order = 0; order < 2; order++) {
            for (int shift : new int[] {0, 500}) {
                PromiseCourt court = CHECK.court(2, PROVED);
                court.promise(0, 1, 0, 500, 0, 0);
                court.comes(0, 100 + shift + order, order == 0);
                court.comes(0, 101 + shift - order, order != 0);
                state("the met one is the earlier", court, 9999, 6);
                court.comes(0, 99 + shift, false);
                state("one that is earlier still", court, 9999, 3);
                CHECK.due("promise 19: as known ahead of it", court.state(0, 9999, 2), 6);
            }
        }
    }

    private static void promise19OfOneDayTheOneToldFirst() {
        for (int day : new int[] {0, 499, 500, 501, 9999}) {
            PromiseCourt met = CHECK.court(2, PROVED);
            met.promise(0, 1, 0, 500, 0, 0);
            met.comes(0, day, true);
            met.comes(0, day, false);
            met.comes(0, day, false);
            state("met was told first", met, 9999, 6);
            PromiseCourt fails = CHECK.court(2, PROVED);
            fails.promise(0, 1, 0, 500, 0, 0);
            fails.comes(0, day, false);
            fails.comes(0, day, true);
            state("fails was told first", fails, 9999, 3);
        }
    }

    /** Ahead of EFFECT it is open, be it barred, void or in force then. */
    private static void promise19OpenWhateverComes() {
        PromiseCourt barred = CHECK.court(2, PROVED + "bar if 1 == 1;");
        barred.promise(0, 1, 0, 100, 0, 0);
        barred.comes(0, 500, true);
        state("open, to be barred", barred, 499, 2);
        state("barred", barred, 500, 4);
        PromiseCourt rival = CHECK.court(3, PROVED);
        rival.promise(0, 1, 0, 100, 0, 0);
        rival.promise(0, 2, 0, 200, 0, -1);
        rival.comes(0, 500, true);
        state("open, to be void", rival, 499, 2);
        state("void", rival, 500, 5);
        PromiseCourt dead = CHECK.court(2, PROVED);
        dead.promise(0, 1, 0, 100, 0, 0);
        dead.fate(0, 0, 50);
        state("open with a dead one", dead, 9999, 2);
    }

    private static void promise19EndsOnThatDayOrAhead() {
        PromiseCourt death = couple(PROVED);
        death.fate(0, 1, 700);
        ends("death", death, 7);
        PromiseCourt lapse = couple(PROVED + "lapse 50;");
        lapse.fate(2, 0, 650);
        ends("lapse", lapse, 8);
        PromiseCourt later = couple(PROVED + Courts.ALL_OVER);
        later.promise(1, 2, 0, 700, 0, -1);
        ends("a later one", later, 9);
    }

    private static void ends(String by, PromiseCourt court, int state) {
        state(by, court, 499, 1);
        state(by, court, 500, 6);
        state(by, court, 699, 6);
        state(by, court, 700, state);
        state(by, court, 701, state);
        state(by, court, 9999, state);
    }

    private static void promise19NoSuchOnes() {
        Twins twins = new Twins(CHECK, "promise 19", Courts::told);
        for (int none : NO_PROMISES) {
            twins.refused("state(" + none + ", 5000, 9)", -1, court -> court.state(none, 5000, 9));
        }
        for (int none : NO_DAYS) {
            twins.refused("state(0, " + none + ", 9)", -1, court -> court.state(0, none, 9));
        }
        for (int none : NO_FACTS) {
            twins.refused("state(0, 5000, " + none + ")", -1, court -> court.state(0, 5000, none));
        }
        CHECK.due("promise 19: day 0", Courts.told().state(0, 0, 9), 1);
        CHECK.due("promise 19: day 9999", Courts.told().state(3, 9999, 9), 2);
        CHECK.due("promise 19: n 0", Courts.told().state(3, 9999, 0), 0);
    }

    private static void bound(PromiseCourt court, int person, int day, int want) {
        CHECK.due("promise 21: " + person + " on " + day, court.bound(person, day, court.count(3)), want);
    }

    private static void promise21FromEffectTillItEnds() {
        PromiseCourt court = couple(PROVED + Courts.ALL_OVER);
        court.promise(2, 1, 0, 700, 0, -1);
        court.fate(0, 2, 900);
        int[] days = {0, 499, 500, 699, 700, 899, 900, 9999};
        int[] first = {-1, -1, 1, 1, -1, -1, -1, -1};
        int[] second = {-1, -1, 0, 0, 2, 2, -1, -1};
        int[] third = {-1, -1, -1, -1, 1, 1, -1, -1};
        for (int i = 0; i < days.length; i++) {
            bound(court, 0, days[i], first[i]);
            bound(court, 1, days[i], second[i]);
            bound(court, 2, days[i], third[i]);
        }
        CHECK.due("promise 21: as known by none", court.bound(1, 9999, 0), 2);
    }

    private static void promise21FirstAndLastDay() {
        PromiseCourt court = CHECK.court(12, PROVED);
        court.promise(0, 11, 0, 0, 0, -1);
        court.promise(1, 2, 0, 9999, 0, -1);
        bound(court, 0, 0, 11);
        bound(court, 11, 9999, 0);
        bound(court, 1, 9998, -1);
        bound(court, 1, 9999, 2);
        bound(court, 3, 9999, -1);
        for (int none : NO_DAYS) {
            bound(court, 0, none, -1);
        }
    }

    private static void promise21NoSuchOnes() {
        Twins twins = new Twins(CHECK, "promise 21", Courts::told);
        CHECK.due("promise 21: such ones", Courts.told().bound(0, 3500, 9), 3);
        for (int none : NO_PERSONS) {
            twins.refused("bound(" + none + ", 3500, 9)", -1, court -> court.bound(none, 3500, 9));
        }
        for (int none : NO_DAYS) {
            twins.refused("bound(0, " + none + ", 9)", -1, court -> court.bound(0, none, 9));
        }
        for (int none : NO_FACTS) {
            twins.refused("bound(0, 3500, " + none + ")", -1, court -> court.bound(0, 3500, none));
        }
    }

    private static void changed(PromiseCourt court, int day, int n, int m, int want) {
        CHECK.due("promise 24: on " + day + ", by " + n + " and by " + m, court.changed(day, n, m), want);
        CHECK.due("promise 24: on " + day + ", by " + m + " and by " + n, court.changed(day, m, n), want);
    }

    private static void promise24AnotherState() {
        PromiseCourt court = couple(PROVED);
        court.fame(0);
        court.fate(0, 0, 700);
        court.fate(0, 1, 600);
        changed(court, 699, 1, 2, -1);
        changed(court, 700, 1, 2, 0);
        changed(court, 9999, 1, 2, 0);
        changed(court, 9999, 0, 1, -1);
        changed(court, 599, 0, 3, -1);
        changed(court, 600, 0, 3, 0);
        // Another day on which it ended is no other state behind both.
        changed(court, 700, 2, 3, -1);
        changed(court, 0, 0, 3, -1);
        for (int n = 0; n <= 3; n++) {
            changed(court, 700, n, n, -1);
        }
        PromiseCourt first = CHECK.court(2, PROVED);
        first.promise(0, 1, 0, 0, 0, -1);
        first.fate(0, 0, 0);
        changed(first, 0, 0, 1, 0);
        CHECK.due("promise 24: nothing is promised", new PromiseCourt().changed(0, 0, 0), -1);
    }

    private static void promise24FirstOfAll() {
        PromiseCourt court = CHECK.court(12, "proof if fame == 1;");
        for (int p = 0; p < 10; p++) {
            court.promise(p, p + 1, 0, 100 * p, 0, -1);
        }
        for (int p = 9; p >= 0; p--) {
            int facts = court.count(3);
            court.fame(p);
            changed(court, 9999, facts, facts + 1, p);
            changed(court, 0, 0, facts + 1, p);
        }
    }

    private static void promise24NoneOfTen() {
        PromiseCourt court = Courts.full();
        changed(court, 499, 199, 200, -1);
        changed(court, 500, 199, 200, 9);
        changed(court, 9999, 200, 200, -1);
        changed(court, 9999, 0, 0, -1);
    }

    private static void promise24NoSuchOnes() {
        Twins twins = new Twins(CHECK, "promise 24", Courts::told);
        CHECK.due("promise 24: such ones", Courts.told().changed(9999, 0, 9), 0);
        for (int none : NO_DAYS) {
            twins.refused("changed(" + none + ", 0, 9)", -1, court -> court.changed(none, 0, 9));
        }
        for (int none : NO_FACTS) {
            twins.refused("changed(9999, " + none + ", 9)", -1, court -> court.changed(9999, none, 9));
            twins.refused("changed(9999, 0, " + none + ")", -1, court -> court.changed(9999, 0, none));
        }
    }
}
