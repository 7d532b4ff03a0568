/** Promises 6 to 13 and 25: what is told, how much of it there is room for, and what is refused. */
public final class RegisterTest {
    private static final Check CHECK = new Check();
    private static final int LEAST = Integer.MIN_VALUE;
    private static final int GREATEST = Integer.MAX_VALUE;

    public static void main(String[] args) {
        persons();
        promises();
        gifts();
        witnesses();
        fames();
        conditions();
        fates();
        leaves();
        twoHundredFacts();
        counts();
        CHECK.finish();
    }

    private static PromiseCourt couple() {
        PromiseCourt court = new PromiseCourt();
        Check.strangers(court, 3);
        court.promise(0, 1, 0, 10, 0, -1);
        return court;
    }

    private static void persons() {
        PromiseCourt court = new PromiseCourt();
        CHECK.due("birth -1", court.person(-1, -1, -1), -1);
        CHECK.due("birth 10000", court.person(-1, -1, 10000), -1);
        CHECK.due("father of oneself", court.person(0, -1, 5), -1);
        CHECK.due("birth 0", court.person(-1, -1, 0), 0);
        CHECK.due("birth 9999", court.person(-1, -1, 9999), 1);
        CHECK.due("father -2", court.person(-2, -1, 5), -1);
        CHECK.due("mother -2", court.person(-1, -2, 5), -1);
        CHECK.due("father 2", court.person(2, -1, 5), -1);
        CHECK.due("mother 2", court.person(-1, 2, 5), -1);
        CHECK.due("father least", court.person(LEAST, 0, 5), -1);
        CHECK.due("mother greatest", court.person(0, GREATEST, 5), -1);
        CHECK.due("one and the same", court.person(0, 0, 5), -1);
        CHECK.due("on the father's birth", court.person(0, -1, 0), -1);
        CHECK.due("on the mother's birth", court.person(-1, 1, 9999), -1);
        CHECK.due("ahead of the mother's birth", court.person(0, 1, 5), -1);
        CHECK.due("a day behind the father's birth", court.person(0, -1, 1), 2);
        CHECK.due("a mother alone", court.person(-1, 0, 2), 3);
        CHECK.due("behind one parent's birth only", court.person(2, 3, 2), -1);
        CHECK.due("both parents", court.person(2, 3, 3), 4);
        CHECK.due("so far", court.count(0), 5);
        for (int i = 5; i < 12; i++) {
            CHECK.due("person " + i, court.person(-1, -1, i), i);
        }
        CHECK.due("a thirteenth", court.person(-1, -1, 0), -1);
        CHECK.due("twelve", court.count(0), 12);
        CHECK.due("the refused changed no degree", court.degree(4, 0), 2);
    }

    private static void promises() {
        PromiseCourt court = new PromiseCourt();
        Check.strangers(court, 2);
        CHECK.due("first -1", court.promise(-1, 1, 0, 0, 0, -1), -1);
        CHECK.due("first 2", court.promise(2, 1, 0, 0, 0, -1), -1);
        CHECK.due("second -1", court.promise(0, -1, 0, 0, 0, -1), -1);
        CHECK.due("second 2", court.promise(0, 2, 0, 0, 0, -1), -1);
        CHECK.due("a stranger", court.promise(0, 100, 0, 0, 0, -1), -1);
        CHECK.due("one and the same", court.promise(1, 1, 0, 0, 0, -1), -1);
        CHECK.due("place -1", court.promise(0, 1, -1, 0, 0, -1), -1);
        CHECK.due("place 4", court.promise(0, 1, 4, 0, 0, -1), -1);
        CHECK.due("day -1", court.promise(0, 1, 0, -1, 0, -1), -1);
        CHECK.due("day 10000", court.promise(0, 1, 0, 10000, 0, -1), -1);
        CHECK.due("tense -1", court.promise(0, 1, 0, 0, -1, -1), -1);
        CHECK.due("tense 2", court.promise(0, 1, 0, 0, 2, -1), -1);
        CHECK.due("condition -2", court.promise(0, 1, 0, 0, 0, -2), -1);
        CHECK.due("condition 6", court.promise(0, 1, 0, 0, 0, 6), -1);
        CHECK.due("none so far", court.count(1), 0);
        CHECK.due("least", court.promise(0, 1, 0, 0, 0, -1), 0);
        CHECK.due("greatest", court.promise(1, 0, 3, 9999, 1, 5), 1);
        for (int i = 2; i < 10; i++) {
            CHECK.due("promise " + i, court.promise(0, 1, 0, 0, 0, 0), i);
        }
        CHECK.due("an eleventh", court.promise(0, 1, 0, 0, 0, 0), -1);
        CHECK.due("ten", court.count(1), 10);
    }

    private static void gifts() {
        PromiseCourt court = couple();
        CHECK.due("promise -1", court.gift(-1, 0, 1), -1);
        CHECK.due("promise 1", court.gift(1, 0, 1), -1);
        CHECK.due("giver -1", court.gift(0, -1, 1), -1);
        CHECK.due("giver 2", court.gift(0, 2, 1), -1);
        CHECK.due("value 0", court.gift(0, 0, 0), -1);
        CHECK.due("value 1001", court.gift(0, 0, 1001), -1);
        CHECK.due("value least", court.gift(0, 0, LEAST), -1);
        CHECK.due("none so far", court.count(2), 0);
        CHECK.due("value 1", court.gift(0, 0, 1), 0);
        CHECK.due("value 1000", court.gift(0, 1, 1000), 1);
        for (int i = 2; i < 20; i++) {
            CHECK.due("gift " + i, court.gift(0, 0, 5), i);
        }
        CHECK.due("a 21st", court.gift(0, 0, 5), -1);
        CHECK.due("twenty", court.count(2), 20);
    }

    private static void witnesses() {
        PromiseCourt court = couple();
        CHECK.due("the first of both", court.says(0, 0, true), -1);
        CHECK.due("the second of both", court.says(1, 0, true), -1);
        CHECK.due("witness -1", court.says(-1, 0, true), -1);
        CHECK.due("witness 3", court.says(3, 0, true), -1);
        CHECK.due("witness 99", court.says(99, 0, true), -1);
        CHECK.due("witness 120", court.says(120, 0, true), -1);
        CHECK.due("witness greatest", court.says(GREATEST, 0, true), -1);
        CHECK.due("promise -1", court.says(100, -1, true), -1);
        CHECK.due("promise 1", court.says(100, 1, true), -1);
        CHECK.due("promise 1 by a person", court.says(2, 1, true), -1);
        CHECK.due("none so far", court.count(3), 0);
        CHECK.due("a person", court.says(2, 0, true), 0);
        CHECK.due("stranger 100", court.says(100, 0, false), 1);
        CHECK.due("stranger 119", court.says(119, 0, true), 2);
        CHECK.due("again", court.says(119, 0, true), 3);
    }

    private static void fames() {
        PromiseCourt court = couple();
        CHECK.due("promise -1", court.fame(-1), -1);
        CHECK.due("promise 1", court.fame(1), -1);
        CHECK.due("fame", court.fame(0), 0);
        CHECK.due("fame again", court.fame(0), 1);
    }

    private static void conditions() {
        PromiseCourt court = new PromiseCourt();
        CHECK.due("condition -1", court.comes(-1, 0, true), -1);
        CHECK.due("condition 6", court.comes(6, 0, true), -1);
        CHECK.due("day -1", court.comes(0, -1, true), -1);
        CHECK.due("day 10000", court.comes(0, 10000, false), -1);
        CHECK.due("met", court.comes(0, 0, true), 0);
        CHECK.due("fails", court.comes(5, 9999, false), 1);
    }

    private static void fates() {
        PromiseCourt court = couple();
        CHECK.due("kind -1", court.fate(-1, 0, 0), -1);
        CHECK.due("kind 4", court.fate(4, 0, 0), -1);
        CHECK.due("person -1", court.fate(0, -1, 0), -1);
        CHECK.due("person 3", court.fate(0, 3, 0), -1);
        CHECK.due("a stranger", court.fate(0, 100, 0), -1);
        CHECK.due("day -1", court.fate(0, 0, -1), -1);
        CHECK.due("day 10000", court.fate(0, 0, 10000), -1);
        CHECK.due("dies", court.fate(0, 0, 0), 0);
        CHECK.due("vows", court.fate(1, 1, 9999), 1);
        CHECK.due("absent", court.fate(2, 2, 5), 2);
        CHECK.due("returns", court.fate(3, 2, 5), 3);
    }

    private static void leaves() {
        PromiseCourt court = couple();
        CHECK.due("one -1", court.leave(-1, 1, 0), -1);
        CHECK.due("one 3", court.leave(3, 1, 0), -1);
        CHECK.due("other -1", court.leave(0, -1, 0), -1);
        CHECK.due("other 3", court.leave(0, 3, 0), -1);
        CHECK.due("one and the same", court.leave(2, 2, 0), -1);
        CHECK.due("day -1", court.leave(0, 1, -1), -1);
        CHECK.due("day 10000", court.leave(0, 1, 10000), -1);
        CHECK.due("leave", court.leave(0, 1, 0), 0);
        CHECK.due("leave of others", court.leave(2, 1, 9999), 1);
    }

    private static void twoHundredFacts() {
        PromiseCourt court = couple();
        for (int i = 0; i < 200; i += 5) {
            CHECK.due("fact " + i, court.says(100 + i % 20, 0, true), i);
            CHECK.due("fact " + (i + 1), court.fame(0), i + 1);
            CHECK.due("fact " + (i + 2), court.comes(1, i, false), i + 2);
            CHECK.due("fact " + (i + 3), court.fate(i % 4, 2, i), i + 3);
            CHECK.due("fact " + (i + 4), court.leave(0, 2, i), i + 4);
        }
        CHECK.due("a 201st by a witness", court.says(100, 0, true), -1);
        CHECK.due("a 201st by fame", court.fame(0), -1);
        CHECK.due("a 201st by a condition", court.comes(0, 0, true), -1);
        CHECK.due("a 201st by fate", court.fate(0, 0, 0), -1);
        CHECK.due("a 201st by leave", court.leave(0, 1, 0), -1);
        CHECK.due("200", court.count(3), 200);
        CHECK.due("known by 200", court.state(0, 0, 200), 0);
        CHECK.due("known by 201", court.state(0, 0, 201), -1);
    }

    private static void counts() {
        PromiseCourt court = couple();
        court.promise(1, 2, 0, 10, 0, -1);
        Check.read(court, "lapse 1;", 0, 0);
        Check.feed(court, "lapse");
        for (int i = 0; i < 4; i++) {
            court.gift(0, 0, 1);
            court.fame(0);
        }
        court.fame(0);
        CHECK.due("count(0)", court.count(0), 3);
        CHECK.due("count(1)", court.count(1), 2);
        CHECK.due("count(2)", court.count(2), 4);
        CHECK.due("count(3)", court.count(3), 5);
        CHECK.due("count(4)", court.count(4), 1);
        CHECK.due("count(5)", court.count(5), 5);
        CHECK.due("count(-1)", court.count(-1), -1);
        CHECK.due("count(6)", court.count(6), -1);
        CHECK.due("count(least)", court.count(LEAST), -1);
        CHECK.due("count(greatest)", court.count(GREATEST), -1);
    }
}
