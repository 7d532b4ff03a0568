/** Promise 20 at its edges: RIVALS, the DAY on which a PROMISE ends, by what, by whom, and what never was in force. */
public final class ForceEdgeTest {
    private static final Check CHECK = new Check();
    private static final int LEAST = Integer.MIN_VALUE;
    private static final int GREATEST = Integer.MAX_VALUE;
    private static final String PROVED = Courts.ALL_PROVED;
    private static final String OVER = Courts.ALL_OVER;

    public static void main(String[] args) {
        promise20FirstAndLastWhat();
        promise20NeverInForce();
        promise20NotByTheLastDay();
        promise20EarliestDeath();
        promise20LapseOfManyDays();
        promise20FirstLapseRule();
        promise20NoLapseRule();
        promise20LapseNotAheadOfEffect();
        promise20Returns();
        promise20OneAbsenceOfMany();
        promise20LapseOfEitherOfBoth();
        promise20LapseBehindTheLastDay();
        promise20OfOneDayDeathAheadOfLapse();
        promise20OfOneDayDeathAheadOfALaterOne();
        promise20OfOneDayLapseAheadOfALaterOne();
        promise20RivalsInForceOnEffect();
        promise20RivalsOfOneDayByNumbers();
        promise20JudgedByEffect();
        promise20EndsOnItsEffect();
        promise20TheSameTwo();
        promise20BrokenByWhom();
        promise20DaysBetweenEffects();
        promise20VarsThatOverHasNot();
        promise20OldAndTense();
        promise20OfTheNewOnesLaw();
        promise20VoidByTheLeastNumber();
        promise20NothingEndsByAVoidOne();
        promise20LapsedAtOnceItStillEndsRivals();
        promise20AsKnownByN();
        promise20AskedInAnyOrder();
        promise20NoSuchOnes();
        CHECK.finish();
    }

    private static PromiseCourt couple(String law) {
        PromiseCourt court = CHECK.court(4, law);
        court.promise(0, 1, 0, 500, 0, -1);
        return court;
    }

    /** EFFECT, the DAY on which it ends, by what, by which later one, by whom, and by which it is void. */
    private static void force(String what, PromiseCourt court, int promise, int... want) {
        int facts = court.count(3);
        for (int i = 0; i < 6; i++) {
            CHECK.due("promise 20: " + what + ": force(" + promise + ", .., " + i + ")", court.force(promise, facts, i), want[i]);
        }
    }

    private static void never(String what, PromiseCourt court, int promise, int voidBy) {
        force(what, court, promise, -2, -2, -2, -2, -2, voidBy);
    }

    private static void stands(String what, PromiseCourt court, int promise, int effect) {
        force(what, court, promise, effect, -1, 0, -1, 0, -1);
    }

    private static void promise20FirstAndLastWhat() {
        PromiseCourt court = couple(PROVED);
        stands("it stands", court, 0, 500);
        for (int what : new int[] {-1, -2, 6, 7, LEAST, GREATEST}) {
            CHECK.due("promise 20: what " + what, court.force(0, 0, what), -3);
        }
        PromiseCourt unproved = couple("");
        for (int what : new int[] {-1, -2, 6, 7, LEAST, GREATEST}) {
            CHECK.due("promise 20: what " + what + " of one that never was", unproved.force(0, 0, what), -3);
        }
    }

    private static void promise20NeverInForce() {
        never("not proved", couple(""), 0, -1);
        never("barred", couple(PROVED + "bar if 1 == 1;"), 0, -1);
        PromiseCourt open = CHECK.court(3, PROVED);
        open.promise(0, 1, 0, 500, 0, 2);
        never("open", open, 0, -1);
        open.comes(2, 600, false);
        never("fails", open, 0, -1);
        open.comes(2, 500, true);
        stands("met", open, 0, 500);
        open.promise(0, 2, 0, 400, 0, -1);
        never("void", open, 0, 1);
    }

    private static void promise20NotByTheLastDay() {
        for (int effect : new int[] {0, 9999}) {
            PromiseCourt court = CHECK.court(2, PROVED + "lapse 1;");
            court.promise(0, 1, 0, effect, 0, -1);
            stands("in force from " + effect + " on", court, 0, effect);
        }
        PromiseCourt last = couple(PROVED);
        last.fate(0, 1, 9999);
        force("a death on the last day", last, 0, 500, 9999, 7, -1, 0, -1);
        PromiseCourt later = couple(PROVED + OVER);
        later.promise(0, 2, 0, 9999, 0, -1);
        force("a later one on the last day", later, 0, 500, 9999, 9, 1, 1, -1);
        stands("the later one", later, 1, 9999);
    }

    private static void promise20EarliestDeath() {
        PromiseCourt court = couple(PROVED);
        court.fate(0, 2, 501);
        stands("a death of another", court, 0, 500);
        int[][] deaths = {{1, 800, 800}, {0, 900, 800}, {0, 799, 799}, {1, 501, 501}, {0, 502, 501}};
        for (int[] death : deaths) {
            court.fate(0, death[0], death[1]);
            force(death[0] + " dies on " + death[1], court, 0, 500, death[2], 7, -1, 0, -1);
        }
        court.fate(0, 1, 500);
        never("dies on effect", court, 0, -1);
    }

    private static void promise20LapseOfManyDays() {
        int[] days = {0, 1, 2, 365, 9399};
        for (int lapse : days) {
            PromiseCourt court = couple(PROVED + "lapse " + lapse + ";");
            court.fate(2, 1, 600);
            force("lapse " + lapse, court, 0, 500, 600 + lapse, 8, -1, 0, -1);
        }
    }

    private static void promise20FirstLapseRule() {
        PromiseCourt court = couple("lapse 90; lapse 5;" + PROVED + "lapse 0;");
        court.fate(2, 1, 600);
        force("the first of three", court, 0, 500, 690, 8, -1, 0, -1);
        PromiseCourt last = couple(PROVED + Check.times(14, "bar if 1 == 2;") + "lapse 7;");
        last.fate(2, 1, 600);
        force("the sixteenth rule", last, 0, 500, 607, 8, -1, 0, -1);
    }

    private static void promise20NoLapseRule() {
        PromiseCourt court = couple(PROVED);
        court.fate(2, 0, 0);
        court.fate(2, 1, 600);
        stands("without a lapse rule", court, 0, 500);
    }

    /** With lapse 20, one who is absent from 480 on has been so for long on 500. */
    private static void promise20LapseNotAheadOfEffect() {
        int[] days = {0, 479, 480, 481, 499, 500, 501};
        for (int day : days) {
            PromiseCourt court = couple(PROVED + "lapse 20;");
            court.fate(2, 0, day);
            if (day + 20 <= 500) {
                never("absent from " + day, court, 0, -1);
                CHECK.due("promise 19: absent from " + day + ", ahead of effect", court.state(0, 499, 1), 1);
                CHECK.due("promise 19: absent from " + day + ", on effect", court.state(0, 500, 1), 8);
            } else {
                force("absent from " + day, court, 0, 500, day + 20, 8, -1, 0, -1);
            }
        }
    }

    private static void promise20Returns() {
        int[] days = {0, 599, 600, 601, 619, 620, 621, 9999};
        for (int day : days) {
            for (int order = 0; order < 2; order++) {
                PromiseCourt court = couple(PROVED + "lapse 20;");
                court.fate(2 + order, 1, order == 0 ? 600 : day);
                court.fate(3 - order, 1, order == 0 ? day : 600);
                if (day >= 600 && day <= 620) {
                    stands("back on " + day, court, 0, 500);
                } else {
                    force("back on " + day, court, 0, 500, 620, 8, -1, 0, -1);
                }
            }
        }
        PromiseCourt others = couple(PROVED + "lapse 20;");
        others.fate(2, 1, 600);
        others.fate(3, 0, 610);
        force("another one is back", others, 0, 500, 620, 8, -1, 0, -1);
        // Long absent by EFFECT: a return counts up to EFFECT itself.
        for (int day : new int[] {99, 100, 120, 499, 500, 501}) {
            PromiseCourt early = couple(PROVED + "lapse 20;");
            early.fate(2, 0, 100);
            early.fate(3, 0, day);
            if (day >= 100 && day <= 500) {
                stands("away long ago, back on " + day, early, 0, 500);
            } else {
                never("away long ago, back on " + day, early, 0, -1);
            }
        }
        PromiseCourt atOnce = couple(PROVED + "lapse 0;");
        atOnce.fate(2, 1, 600);
        force("lapse 0", atOnce, 0, 500, 600, 8, -1, 0, -1);
        atOnce.fate(3, 1, 600);
        stands("lapse 0, back at once", atOnce, 0, 500);
    }

    private static void promise20OneAbsenceOfMany() {
        PromiseCourt court = couple(PROVED + "lapse 20;");
        court.fate(2, 1, 600);
        court.fate(3, 1, 610);
        stands("back in time", court, 0, 500);
        court.fate(2, 1, 700);
        force("away again", court, 0, 500, 720, 8, -1, 0, -1);
        court.fate(2, 1, 611);
        force("away a day behind the return", court, 0, 500, 631, 8, -1, 0, -1);
        court.fate(2, 1, 610);
        force("away on the day of the return", court, 0, 500, 631, 8, -1, 0, -1);
        court.fate(3, 1, 631);
        force("back on the last day", court, 0, 500, 720, 8, -1, 0, -1);
    }

    private static void promise20LapseOfEitherOfBoth() {
        PromiseCourt court = couple(PROVED + "lapse 20;");
        court.fate(2, 2, 501);
        stands("another one is absent", court, 0, 500);
        court.fate(2, 1, 700);
        court.fate(2, 0, 650);
        force("the first is absent earlier", court, 0, 500, 670, 8, -1, 0, -1);
        court.fate(2, 1, 640);
        force("the second is absent earlier", court, 0, 500, 660, 8, -1, 0, -1);
    }

    private static void promise20LapseBehindTheLastDay() {
        PromiseCourt court = couple(PROVED + "lapse 9999;");
        court.fate(2, 1, 9999);
        court.fate(2, 1, 1);
        stands("a lapse on day 10000", court, 0, 500);
        CHECK.due("promise 19: a lapse on day 10000", court.state(0, 9999, 2), 6);
        court.fate(2, 1, 0);
        force("a lapse on day 9999", court, 0, 500, 9999, 8, -1, 0, -1);
        CHECK.due("promise 19: a lapse on day 9999", court.state(0, 9999, 3), 8);
        CHECK.due("promise 19: a day ahead", court.state(0, 9998, 3), 6);
    }

    private static void promise20OfOneDayDeathAheadOfLapse() {
        for (int death : new int[] {619, 620, 621}) {
            PromiseCourt court = couple(PROVED + "lapse 20;");
            court.fate(2, 1, 600);
            court.fate(0, 0, death);
            force("lapse on 620, death on " + death, court, 0, 500, Math.min(death, 620), death <= 620 ? 7 : 8, -1, 0, -1);
        }
    }

    private static void promise20OfOneDayDeathAheadOfALaterOne() {
        for (int death : new int[] {699, 700, 701}) {
            PromiseCourt court = couple(PROVED + OVER);
            court.promise(0, 2, 0, 700, 0, -1);
            court.fate(0, 1, death);
            if (death <= 700) {
                force("death on " + death, court, 0, 500, death, 7, -1, 0, -1);
            } else {
                force("death on " + death, court, 0, 500, 700, 9, 1, 1, -1);
            }
            stands("the later one", court, 1, 700);
        }
    }

    private static void promise20OfOneDayLapseAheadOfALaterOne() {
        for (int absent : new int[] {679, 680, 681}) {
            PromiseCourt court = couple(PROVED + OVER + "lapse 20;");
            court.promise(0, 2, 0, 700, 0, -1);
            court.fate(2, 1, absent);
            if (absent <= 680) {
                force("lapse on " + (absent + 20), court, 0, 500, absent + 20, 8, -1, 0, -1);
            } else {
                force("lapse on " + (absent + 20), court, 0, 500, 700, 9, 1, 1, -1);
            }
            stands("the later one", court, 1, 700);
        }
    }

    /** Without an over RULE a RIVAL makes the new one void; one that has ended by then does not. */
    private static void promise20RivalsInForceOnEffect() {
        for (int end : new int[] {501, 699, 700, 701, 9999}) {
            PromiseCourt court = couple(PROVED);
            court.promise(0, 2, 0, 700, 0, -1);
            court.fate(0, 1, end);
            if (end <= 700) {
                stands("its rival ended on " + end, court, 1, 700);
            } else {
                never("its rival ends on " + end, court, 1, 0);
            }
        }
        for (int absent : new int[] {600, 680, 681}) {
            PromiseCourt court = couple(PROVED + "lapse 20;");
            court.promise(2, 0, 0, 700, 0, -1);
            court.fate(2, 1, absent);
            if (absent <= 680) {
                stands("its rival lapsed on " + (absent + 20), court, 1, 700);
            } else {
                never("its rival lapses on 701", court, 1, 0);
            }
        }
        int[][] pairs = {{0, 2}, {2, 0}, {1, 2}, {2, 1}, {2, 3}};
        for (int[] pair : pairs) {
            PromiseCourt court = couple(PROVED);
            court.promise(pair[0], pair[1], 0, 700, 0, -1);
            if (pair[0] + pair[1] == 5) {
                stands("no one of both is in it", court, 1, 700);
            } else {
                never("one of both is in it", court, 1, 0);
            }
        }
    }

    private static void promise20RivalsOfOneDayByNumbers() {
        PromiseCourt strict = couple(PROVED);
        strict.promise(0, 2, 0, 500, 0, -1);
        stands("the lesser number", strict, 0, 500);
        never("the greater number", strict, 1, 0);
        PromiseCourt ahead = couple(PROVED);
        ahead.promise(0, 2, 0, 499, 0, -1);
        stands("a greater number, a day ahead", ahead, 1, 499);
        never("a lesser number, a day behind", ahead, 0, 1);
        PromiseCourt over = couple(PROVED + OVER);
        over.promise(0, 2, 0, 500, 0, -1);
        never("over on its own effect", over, 0, -1);
        stands("the greater number over it", over, 1, 500);
    }

    private static void promise20JudgedByEffect() {
        PromiseCourt court = CHECK.court(3, PROVED);
        court.promise(0, 1, 0, 100, 0, 0);
        court.promise(0, 2, 0, 500, 0, -1);
        court.comes(0, 501, true);
        never("said first, met a day behind", court, 0, 1);
        stands("said later", court, 1, 500);
        court.comes(0, 500, true);
        stands("said first, met on the day of the other", court, 0, 500);
        never("said later, of one day the greater number", court, 1, 0);
    }

    private static void promise20EndsOnItsEffect() {
        PromiseCourt court = CHECK.court(4, PROVED + OVER);
        court.promise(0, 1, 0, 500, 0, -1);
        court.promise(1, 2, 0, 500, 0, -1);
        court.promise(2, 3, 0, 500, 0, -1);
        never("ended by the second", court, 0, -1);
        never("ended by the third", court, 1, -1);
        stands("the third", court, 2, 500);
        for (int promise = 0; promise < 3; promise++) {
            CHECK.due("promise 19: of one day, " + promise, court.state(promise, 500, 0), promise < 2 ? 9 : 6);
            CHECK.due("promise 19: a day ahead, " + promise, court.state(promise, 499, 0), 1);
        }
        CHECK.due("promise 21: bound to nobody", court.bound(0, 500, 0), -1);
        CHECK.due("promise 21: bound to nobody", court.bound(1, 500, 0), -1);
    }

    private static void promise20TheSameTwo() {
        for (int side = 0; side < 2; side++) {
            PromiseCourt court = couple(PROVED);
            court.promise(side, 1 - side, 0, 501, 0, -1);
            force("the same two, side " + side, court, 0, 500, 501, 9, 1, 0, -1);
            stands("anew, side " + side, court, 1, 501);
            PromiseCourt oneDay = couple(PROVED);
            oneDay.promise(side, 1 - side, 0, 500, 0, -1);
            never("the same two on one day, side " + side, oneDay, 0, -1);
            stands("anew on one day, side " + side, oneDay, 1, 500);
        }
    }

    private static void promise20BrokenByWhom() {
        int[][] pairs = {{0, 2, 1}, {2, 0, 1}, {1, 2, 2}, {2, 1, 2}};
        for (int[] pair : pairs) {
            PromiseCourt court = couple(PROVED + OVER);
            court.promise(pair[0], pair[1], 0, 700, 0, -1);
            force("by " + pair[0] + " and " + pair[1], court, 0, 500, 700, 9, 1, pair[2], -1);
        }
        PromiseCourt two = couple(PROVED + OVER);
        two.promise(2, 3, 0, 600, 0, -1);
        two.promise(3, 0, 0, 700, 0, -1);
        force("the first of two rivals", two, 0, 500, 700, 9, 2, 1, -1);
        force("the second of two rivals", two, 1, 600, 700, 9, 2, 2, -1);
        stands("over both", two, 2, 700);
    }

    private static void promise20DaysBetweenEffects() {
        int[][] rows = {{0, 0, 0}, {0, 1, 1}, {0, 9999, 9999}, {500, 600, 100}, {9998, 9999, 1}};
        for (int[] row : rows) {
            PromiseCourt court = CHECK.court(3, PROVED + "over if days == " + row[2] + ";");
            court.promise(0, 1, 0, row[0], 0, -1);
            court.promise(0, 2, 0, row[1], 0, -1);
            stands("days " + row[2], court, 1, row[1]);
        }
        PromiseCourt less = CHECK.court(3, PROVED + "over if 100 <= days;");
        less.promise(0, 1, 0, 10, 0, 0);
        less.promise(0, 2, 0, 599, 0, -1);
        less.comes(0, 500, true);
        never("99 days behind effect", less, 1, 0);
        less.comes(0, 499, true);
        stands("100 days behind effect", less, 1, 599);
    }

    private static void promise20VarsThatOverHasNot() {
        for (String var : new String[] {"yes", "no", "kin", "fame", "age", "degree", "vow", "leave", "why"}) {
            PromiseCourt court = CHECK.court(3, PROVED + "bar if age == 0; over if " + var + " == 0 and old == 1;");
            court.person(0, 1, 10);
            court.promise(0, 1, 0, 5000, 1, -1);
            court.promise(0, 2, 0, 6000, 0, -1);
            court.says(100, 1, true);
            court.says(101, 1, false);
            court.says(3, 1, true);
            court.fame(1);
            court.fate(1, 2, 10);
            court.leave(0, 2, 10);
            stands(var + " is 0", court, 1, 6000);
        }
    }

    private static void promise20OldAndTense() {
        for (int old = 0; old < 2; old++) {
            for (int tense = 0; tense < 2; tense++) {
                PromiseCourt court = CHECK.court(3, PROVED + "over if old == 0 and tense == 1;");
                court.promise(0, 1, 0, 500, old, -1);
                court.promise(0, 2, 0, 600, tense, -1);
                if (old == 0 && tense == 1) {
                    force("words of now over words to come", court, 0, 500, 600, 9, 1, 1, -1);
                } else {
                    never("old " + old + ", tense " + tense, court, 1, 0);
                }
            }
        }
    }

    private static void promise20OfTheNewOnesLaw() {
        PromiseCourt court = CHECK.court(3, PROVED + OVER);
        Check.read(court, PROVED, 1, 0);
        court.promise(0, 1, 0, 500, 0, -1);
        court.promise(0, 2, 1, 600, 0, -1);
        never("its own law has no over rule", court, 1, 0);
        PromiseCourt other = CHECK.court(3, PROVED);
        Check.read(other, PROVED + OVER, 1, 0);
        other.promise(0, 1, 0, 500, 0, -1);
        other.promise(0, 2, 1, 600, 0, -1);
        stands("its own law has an over rule", other, 1, 600);
    }

    private static void promise20VoidByTheLeastNumber() {
        PromiseCourt court = CHECK.court(4, PROVED + "over if old == 0;");
        court.promise(2, 3, 0, 600, 1, -1);
        court.promise(0, 1, 0, 500, 1, -1);
        court.promise(1, 2, 0, 700, 0, -1);
        never("neither yields", court, 2, 0);
        PromiseCourt second = CHECK.court(4, PROVED + "over if old == 0;");
        second.promise(2, 3, 0, 600, 0, -1);
        second.promise(0, 1, 0, 500, 1, -1);
        second.promise(1, 2, 0, 700, 0, -1);
        never("the first yields, the second does not", second, 2, 1);
    }

    private static void promise20NothingEndsByAVoidOne() {
        PromiseCourt court = CHECK.court(4, PROVED + "over if old == 0;");
        court.promise(0, 1, 0, 500, 0, -1);
        court.promise(2, 3, 0, 500, 1, -1);
        court.promise(1, 2, 0, 600, 0, -1);
        never("one yields, one does not", court, 2, 1);
        stands("the one that yields", court, 0, 500);
        stands("the one that does not", court, 1, 500);
        court.promise(0, 2, 0, 700, 0, -1);
        never("a void one is no rival", court, 3, 1);
    }

    private static void promise20LapsedAtOnceItStillEndsRivals() {
        PromiseCourt court = couple(PROVED);
        Check.read(court, PROVED + OVER + "lapse 5;", 1, 0);
        court.promise(2, 1, 1, 600, 0, -1);
        court.promise(0, 3, 0, 700, 0, -1);
        court.fate(2, 2, 10);
        never("lapsed at once", court, 1, -1);
        force("its rival", court, 0, 500, 600, 9, 1, 2, -1);
        stands("free for another one", court, 2, 700);
    }

    private static void promise20AsKnownByN() {
        PromiseCourt court = couple(PROVED + "lapse 20;");
        court.fate(2, 0, 600);
        court.fate(3, 0, 620);
        court.fate(0, 1, 610);
        int[][] want = {{-1, 0}, {620, 8}, {-1, 0}, {610, 7}};
        for (int n = 0; n < 4; n++) {
            CHECK.due("promise 20: ends, as known by " + n, court.force(0, n, 1), want[n][0]);
            CHECK.due("promise 20: by what, as known by " + n, court.force(0, n, 2), want[n][1]);
        }
    }

    /** An answer as known by one n leaves nothing behind for another n. */
    private static void promise20AskedInAnyOrder() {
        PromiseCourt court = CHECK.court(3, "proof if tense == 0; proof if fame == 1; over if tense == 1; bar if vow == 1; lapse 20;");
        court.promise(0, 1, 0, 500, 0, -1);
        court.promise(0, 2, 0, 600, 1, -1);
        court.promise(1, 2, 0, 700, 0, -1);
        court.fame(1);
        court.fate(2, 1, 560);
        court.fate(0, 0, 570);
        court.fate(1, 0, 400);
        int[][] first = {{500, -1, 0, -1, 0, -1}, {500, 600, 9, 1, 1, -1}, {500, 580, 8, -1, 0, -1}, {500, 570, 7, -1, 0, -1},
            {-2, -2, -2, -2, -2, -1}};
        int[] voids = {0, 1, 1, -1, -1};
        int[] bars = {-1, -1, -1, -1, 3};
        for (int from = 0; from < 5; from++) {
            for (int n = 0; n < 5; n++) {
                court.force(0, from, 0);
                int what = (from + n) % 6;
                CHECK.due("promise 20: by " + n + ", asked behind " + from, court.force(0, n, what), first[n][what]);
                court.force(2, from, 5);
                CHECK.due("promise 20: void, by " + n + ", asked behind " + from, court.force(2, n, 5), voids[n]);
                court.barred(0, from);
                CHECK.due("promise 18: by " + n + ", asked behind " + from, court.barred(0, n), bars[n]);
                court.force(0, from, 4);
                CHECK.due("promise 20: broken, by " + n + ", asked behind " + from, court.force(0, n, 4), first[n][4]);
            }
        }
    }

    private static void promise20NoSuchOnes() {
        Twins twins = new Twins(CHECK, "promise 20", Courts::told);
        for (int what = 0; what < 6; what++) {
            int which = what;
            for (int none : new int[] {-1, -2, 4, 5, 9, 10, LEAST, GREATEST}) {
                twins.refused("force(" + none + ", 9, " + what + ")", -3, court -> court.force(none, 9, which));
            }
            for (int none : new int[] {-1, -2, 10, 11, 200, 201, LEAST, GREATEST}) {
                twins.refused("force(0, " + none + ", " + what + ")", -3, court -> court.force(0, none, which));
            }
        }
        for (int none : new int[] {-1, 6, LEAST, GREATEST}) {
            twins.refused("force(0, 9, " + none + ")", -3, court -> court.force(0, 9, none));
        }
        CHECK.due("promise 20: nothing is promised", new PromiseCourt().force(0, 0, 5), -3);
    }
}
