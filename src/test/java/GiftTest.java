/** Promises 22 and 23: what goes back of a gift, and what one owes. */
public final class GiftTest {
    private static final Check CHECK = new Check();
    private static final String ALL_PROVED = "proof if 1 == 1;";

    public static void main(String[] args) {
        shares();
        firstRuleThatHolds();
        heldToHundred();
        whyByState();
        brokenByWhom();
        daysAndTense();
        owing();
        wrongInputs();
        CHECK.finish();
    }

    /** How much goes back of a gift of so much for a promise of tense 1 that ended by death after 30 days. */
    private static void back(String rules, int value, int want) {
        PromiseCourt court = CHECK.court(2, ALL_PROVED + rules);
        court.promise(0, 1, 0, 50, 1, -1);
        court.gift(0, 0, value);
        court.fate(0, 1, 80);
        CHECK.due(rules + " of " + value, court.goes(0, 80, 1), want);
        CHECK.due(rules + " of " + value + " a day ahead", court.goes(0, 79, 1), 0);
        CHECK.due(rules + " of " + value + " as known ahead", court.goes(0, 80, 0), 0);
    }

    private static void shares() {
        back("back 50;", 1000, 500);
        back("back 33;", 10, 3);
        back("back 99;", 1, 0);
        back("back 100;", 1, 1);
        back("", 1000, 0);
    }

    private static void firstRuleThatHolds() {
        PromiseCourt first = CHECK.court(2, "back 60; bar if 1 == 1; back 70; " + ALL_PROVED);
        first.promise(0, 1, 0, 50, 1, -1);
        first.gift(0, 0, 100);
        CHECK.due("a back rule as the first", first.goes(0, 50, 0), 60);
        back("back 10 if why == 8; back 20 if why == 7; back 30;", 100, 20);
        back("back 10 if why == 8; back 20 if why == 9; back 30; back 40;", 100, 30);
        back("back 10 if why == 8; back 20 if why != 7;", 100, 0);
        back("back 10 if 1 == 2 and 1 == 1 or 3 == 4; lapse 9; back 15 if 1 == 2 or why + days == 37;", 100, 15);
    }

    private static void heldToHundred() {
        back("back 101;", 1000, 1000);
        back("back 0 - 1;", 1000, 0);
        back("back 9999 * 9999 * 21;", 1000, 1000);
        back("back 9999 * 9999 * 22;", 1000, 0);
        back("back 9999 * 9999 * 43 - 4172 * 1000 - 700;", 1000, 470);
        back("back 1 - 2 + 3 * (4 - 1);", 100, 8);
    }

    private static void whyByState() {
        PromiseCourt court = CHECK.court(4, ALL_PROVED + "bar if tense == 1; lapse 5; back why * 8 + days;");
        court.promise(0, 1, 0, 50, 0, 0);
        court.promise(0, 1, 0, 50, 1, -1);
        court.promise(2, 3, 0, 50, 0, -1);
        court.promise(2, 1, 0, 60, 0, -1);
        for (int i = 0; i < 4; i++) {
            court.gift(i, 0, 100);
        }
        CHECK.due("open", court.goes(0, 9999, 0), 0);
        court.comes(0, 70, false);
        CHECK.due("ahead of failing", court.goes(0, 69, 1), 0);
        CHECK.due("fails", court.goes(0, 70, 1), 24);
        CHECK.due("fails, long behind", court.goes(0, 9999, 1), 24);
        CHECK.due("ahead of effect", court.goes(1, 49, 1), 0);
        CHECK.due("barred", court.goes(1, 50, 1), 32);
        CHECK.due("void", court.goes(3, 60, 1), 40);
        CHECK.due("in force", court.goes(2, 60, 1), 0);
        court.fate(2, 3, 59);
        CHECK.due("lapsed", court.goes(2, 64, 2), 64 + 14);
        CHECK.due("lapsed, long behind", court.goes(2, 9999, 2), 64 + 14);
        court.fate(0, 2, 62);
        CHECK.due("dead", court.goes(2, 62, 3), 56 + 12);
        PromiseCourt unproved = CHECK.court(2, "back 100;");
        unproved.promise(0, 1, 0, 50, 0, -1);
        unproved.gift(0, 0, 100);
        CHECK.due("unproved", unproved.goes(0, 9999, 0), 0);
    }

    private static void brokenByWhom() {
        PromiseCourt court = CHECK.court(4, ALL_PROVED + "over if 1 == 1; back 1 if why == 9; back 2 if why == 10; back 3 if why == 11;");
        court.promise(0, 1, 0, 50, 0, -1);
        court.promise(1, 0, 0, 60, 0, -1);
        court.promise(1, 2, 0, 70, 0, -1);
        court.promise(3, 2, 0, 80, 0, -1);
        for (int i = 0; i < 3; i++) {
            court.gift(i, 0, 100);
            court.gift(i, 1, 100);
        }
        CHECK.due("by nobody", court.goes(0, 60, 0), 3);
        CHECK.due("by nobody", court.goes(1, 60, 0), 3);
        CHECK.due("by the giver, the first", court.goes(2, 70, 0), 1);
        CHECK.due("by the other, the first", court.goes(3, 70, 0), 2);
        CHECK.due("by the other, the second", court.goes(4, 80, 0), 2);
        CHECK.due("by the giver, the second", court.goes(5, 80, 0), 1);
    }

    private static void daysAndTense() {
        back("back days;", 100, 30);
        back("back tense * 7;", 100, 7);
        back("back yes + no + kin + fame + age + degree + vow + leave + old + 4;", 100, 4);
        PromiseCourt court = CHECK.court(3, ALL_PROVED + "over if days == 0; back days + 5; back 1;");
        court.promise(0, 1, 0, 50, 0, -1);
        court.promise(0, 2, 0, 50, 0, -1);
        court.gift(0, 0, 100);
        CHECK.due("ended on its effect", court.goes(0, 50, 0), 5);
        PromiseCourt late = CHECK.court(2, ALL_PROVED + "back days;");
        late.promise(0, 1, 0, 50, 0, 3);
        late.gift(0, 0, 100);
        late.comes(3, 60, true);
        late.fate(0, 0, 75);
        CHECK.due("days from effect", late.goes(0, 75, 2), 15);
    }

    private static void owing() {
        PromiseCourt court = CHECK.court(4, ALL_PROVED + "back 50;");
        court.promise(0, 1, 0, 50, 0, -1);
        court.promise(2, 0, 0, 40, 0, 1);
        court.promise(2, 3, 0, 30, 0, -1);
        court.gift(0, 0, 100);
        court.gift(0, 1, 7);
        court.gift(1, 0, 1000);
        court.gift(2, 0, 600);
        CHECK.due("nothing yet", court.owes(1, 9999, 0), 0);
        court.fate(0, 1, 60);
        court.comes(1, 70, false);
        CHECK.due("the taker", court.owes(1, 60, 2), 50 - 3);
        CHECK.due("the giver", court.owes(0, 60, 2), 3 - 50);
        CHECK.due("the giver, by two promises", court.owes(0, 70, 2), 3 - 50 + 500);
        CHECK.due("the giver of another", court.owes(2, 70, 2), -500);
        CHECK.due("one in force", court.owes(3, 70, 2), 0);
        CHECK.due("a day ahead", court.owes(1, 59, 2), 0);
        CHECK.due("as known ahead", court.owes(1, 60, 0), 0);
        CHECK.due("person -1", court.owes(-1, 60, 2), 0);
        CHECK.due("person 4", court.owes(4, 60, 2), 0);
        CHECK.due("day -1", court.owes(1, -1, 2), 0);
        CHECK.due("day 10000", court.owes(1, 10000, 2), 0);
        CHECK.due("n -1", court.owes(1, 60, -1), 0);
        CHECK.due("n 3", court.owes(1, 60, 3), 0);
    }

    private static void wrongInputs() {
        PromiseCourt court = CHECK.court(2, ALL_PROVED + "bar if 1 == 1; back 100;");
        court.promise(0, 1, 0, 0, 0, -1);
        court.gift(0, 0, 9);
        court.fame(0);
        CHECK.due("goes", court.goes(0, 0, 1), 9);
        CHECK.due("gift -1", court.goes(-1, 0, 0), -1);
        CHECK.due("gift 1", court.goes(1, 0, 0), -1);
        CHECK.due("day -1", court.goes(0, -1, 0), -1);
        CHECK.due("day 10000", court.goes(0, 10000, 0), -1);
        CHECK.due("n -1", court.goes(0, 0, -1), -1);
        CHECK.due("n 2", court.goes(0, 0, 2), -1);
    }
}
