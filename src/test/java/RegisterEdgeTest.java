import java.util.function.ToIntFunction;

/** Promises 6 to 13 and 25 at their edges: the first and the last that is taken, full rows, and refused calls. */
public final class RegisterEdgeTest {
    private static final Check CHECK = new Check();
    private static final int LEAST = Integer.MIN_VALUE;
    private static final int GREATEST = Integer.MAX_VALUE;
    private static final int[] NO_DAYS = {-1, -2, 10000, 10001, LEAST, GREATEST};
    // Courts.told() has five persons, four promises, four gifts and nine facts.
    private static final int[] NO_PERSONS = {-1, -2, 5, 6, 11, 12, 100, 119, LEAST, GREATEST};
    private static final int[] NO_PARENTS = {-2, 5, 6, 11, 12, 100, LEAST, GREATEST};
    private static final int[] NO_PROMISES = {-1, -2, 4, 5, 9, 10, LEAST, GREATEST};
    private static final int[] NO_CONDITIONS = {-2, 6, 7, LEAST, GREATEST};

    public static void main(String[] args) {
        promise6TwelveFromZeroOn();
        promise6TwelveAreThere();
        promise6NoSuchFatherOrMother();
        promise6OneAndTheSame();
        promise6FirstAndLastBirth();
        promise6NoSuchDay();
        promise6BirthBehindThatOfBoth();
        promise7TenFromZeroOn();
        promise7TenAreThere();
        promise7NoSuchPersons();
        promise7FirstAndLastOfEach();
        promise7NoSuchPlaceDayTenseCondition();
        promise8TwentyFromZeroOn();
        promise8TwentyAreThere();
        promise8FirstAndLastOfEach();
        promise8NoSuchPromiseGiverValue();
        promise9FirstAndLastWitness();
        promise9NoSuchWitnessOrPromise();
        promise9OneOfBoth();
        promise10FirstAndLastPromise();
        promise10NoSuchPromise();
        promise11FirstAndLastOfEach();
        promise11NoSuchConditionOrDay();
        promise12FirstAndLastOfEach();
        promise12NoSuchOnes();
        promise13FirstAndLastOfEach();
        promise13NoSuchPersonsOrDay();
        promises9To13FactsFromZeroOn();
        promises9To13TheLastFact();
        promises9To13TwoHundredAreThere();
        promise25EmptyAndFull();
        promise25NoneForOthers();
        CHECK.finish();
    }

    private static void refused(int promise, String call, ToIntFunction<PromiseCourt> refusal) {
        new Twins(CHECK, "promise " + promise, Courts::told).refused(call, -1, refusal);
    }

    private static void refusedWhenFull(int promise, String call, ToIntFunction<PromiseCourt> refusal) {
        new Twins(CHECK, "promise " + promise, Courts::full).refused(call, -1, refusal);
    }

    private static void promise6TwelveFromZeroOn() {
        PromiseCourt court = new PromiseCourt();
        for (int i = 0; i < 12; i++) {
            CHECK.due("promise 6: person " + i, court.person(-1, -1, i), i);
            CHECK.due("promise 6: persons behind " + i, court.count(0), i + 1);
        }
        CHECK.due("promise 6: a thirteenth", court.person(-1, -1, 12), -1);
        CHECK.due("promise 6: still twelve", court.count(0), 12);
        CHECK.due("promise 6: the twelfth of twelve", Courts.nearlyFull().person(10, 9, 9999), 11);
    }

    private static void promise6TwelveAreThere() {
        refusedWhenFull(6, "a thirteenth", court -> court.person(-1, -1, 0));
        refusedWhenFull(6, "a thirteenth with parents", court -> court.person(0, 1, 9999));
    }

    private static void promise6NoSuchFatherOrMother() {
        for (int none : NO_PARENTS) {
            refused(6, "father " + none, court -> court.person(none, -1, 9999));
            refused(6, "mother " + none, court -> court.person(-1, none, 9999));
            refused(6, "father " + none + " with a mother", court -> court.person(none, 1, 9999));
            refused(6, "mother " + none + " with a father", court -> court.person(1, none, 9999));
        }
        PromiseCourt court = new PromiseCourt();
        CHECK.due("promise 6: the first as its own father", court.person(0, -1, 1), -1);
        CHECK.due("promise 6: the first as its own mother", court.person(-1, 0, 1), -1);
        CHECK.due("promise 6: the first", court.person(-1, -1, 0), 0);
        CHECK.due("promise 6: the second by the first", court.person(0, -1, 1), 1);
        CHECK.due("promise 6: the third by the second", court.person(-1, 1, 2), 2);
        CHECK.due("promise 6: a father", court.degree(1, 0), 1);
        CHECK.due("promise 6: a mother", court.degree(2, 1), 1);
    }

    private static void promise6OneAndTheSame() {
        for (int parent = 0; parent < 5; parent++) {
            int both = parent;
            refused(6, "both " + parent, court -> court.person(both, both, 9999));
        }
        refused(6, "both -2", court -> court.person(-2, -2, 9999));
        CHECK.due("promise 6: both are not known", Courts.told().person(-1, -1, 9999), 5);
    }

    private static void promise6FirstAndLastBirth() {
        for (int birth : new int[] {0, 1, 9998, 9999}) {
            CHECK.due("promise 6: birth " + birth, Courts.told().person(-1, -1, birth), 5);
        }
        CHECK.due("promise 6: the last day, of two parents", Courts.told().person(0, 1, 9999), 5);
    }

    private static void promise6NoSuchDay() {
        for (int none : NO_DAYS) {
            refused(6, "birth " + none, court -> court.person(-1, -1, none));
            refused(6, "birth " + none + " of parents", court -> court.person(0, 1, none));
        }
    }

    /** 0 and 1 are born on day 0, 2 on 1000, 3 on 2000, 4 on 3000. */
    private static void promise6BirthBehindThatOfBoth() {
        int[][] wrong = {{0, -1, 0}, {-1, 0, 0}, {0, 1, 0}, {2, -1, 1000}, {-1, 2, 1000}, {2, -1, 999}, {-1, 2, 0},
            {2, 3, 2000}, {3, 2, 2000}, {2, 3, 1001}, {3, 2, 1001}, {3, 2, 1999}};
        for (int[] p : wrong) {
            refused(6, "of " + p[0] + " and " + p[1] + " on " + p[2], court -> court.person(p[0], p[1], p[2]));
        }
        int[][] right = {{0, -1, 1}, {-1, 0, 1}, {0, 1, 1}, {2, -1, 1001}, {-1, 2, 1001}, {2, 3, 2001}, {3, 2, 2001}};
        for (int[] p : right) {
            CHECK.due("promise 6: of " + p[0] + " and " + p[1] + " on " + p[2], Courts.told().person(p[0], p[1], p[2]), 5);
        }
        PromiseCourt last = new PromiseCourt();
        last.person(-1, -1, 9999);
        CHECK.due("promise 6: none behind the last day", last.person(0, -1, 9999), -1);
        CHECK.due("promise 6: no such day behind it", last.person(0, -1, 10000), -1);
    }

    private static void promise7TenFromZeroOn() {
        PromiseCourt court = new PromiseCourt();
        Check.strangers(court, 2);
        for (int i = 0; i < 10; i++) {
            CHECK.due("promise 7: promise " + i, court.promise(0, 1, 0, 0, 0, -1), i);
            CHECK.due("promise 7: promises behind " + i, court.count(1), i + 1);
        }
        CHECK.due("promise 7: an eleventh", court.promise(0, 1, 0, 0, 0, -1), -1);
        CHECK.due("promise 7: still ten", court.count(1), 10);
        CHECK.due("promise 7: the tenth of ten", Courts.nearlyFull().promise(10, 0, 3, 9999, 1, 5), 9);
    }

    private static void promise7TenAreThere() {
        refusedWhenFull(7, "an eleventh", court -> court.promise(0, 1, 0, 0, 0, -1));
        refusedWhenFull(7, "an eleventh of others", court -> court.promise(10, 11, 3, 9999, 1, 5));
    }

    private static void promise7NoSuchPersons() {
        for (int none : NO_PERSONS) {
            refused(7, "first " + none, court -> court.promise(none, 1, 0, 0, 0, -1));
            refused(7, "second " + none, court -> court.promise(1, none, 0, 0, 0, -1));
            refused(7, "both " + none, court -> court.promise(none, none, 0, 0, 0, -1));
        }
        for (int person = 0; person < 5; person++) {
            int both = person;
            refused(7, "one and the same " + person, court -> court.promise(both, both, 0, 0, 0, -1));
        }
        CHECK.due("promise 7: nobody is there", new PromiseCourt().promise(0, 1, 0, 0, 0, -1), -1);
        PromiseCourt alone = new PromiseCourt();
        Check.strangers(alone, 1);
        CHECK.due("promise 7: one alone", alone.promise(0, 1, 0, 0, 0, -1), -1);
    }

    private static void promise7FirstAndLastOfEach() {
        CHECK.due("promise 7: the first and the last person", Courts.told().promise(0, 4, 0, 100, 0, -1), 4);
        CHECK.due("promise 7: the last and the first person", Courts.told().promise(4, 0, 0, 100, 0, -1), 4);
        for (int place = 0; place < 4; place++) {
            PromiseCourt court = Courts.told();
            CHECK.due("promise 7: place " + place, court.promise(0, 1, place, 100, 0, -1), 4);
            CHECK.due("promise 7: its law", court.law(4), place == 0 ? 0 : -1);
        }
        for (int day : new int[] {0, 9999}) {
            PromiseCourt court = CHECK.court(2, Courts.ALL_PROVED);
            CHECK.due("promise 7: day " + day, court.promise(0, 1, 0, day, 0, -1), 0);
            CHECK.due("promise 7: it is in force from " + day, court.force(0, 0, 0), day);
        }
        for (int tense = 0; tense < 2; tense++) {
            PromiseCourt court = CHECK.court(2, "proof if tense == 0; proof if tense == 1;");
            CHECK.due("promise 7: tense " + tense, court.promise(0, 1, 0, 0, tense, -1), 0);
            CHECK.due("promise 7: it is of tense " + tense, court.proved(0, 0), tense);
        }
        for (int condition = -1; condition < 6; condition++) {
            PromiseCourt court = CHECK.court(2, Courts.ALL_PROVED);
            CHECK.due("promise 7: condition " + condition, court.promise(0, 1, 0, 0, 0, condition), 0);
            CHECK.due("promise 7: while " + condition + " is open", court.state(0, 9999, 0), condition == -1 ? 6 : 2);
            for (int met = 0; met < 6; met++) {
                court.comes(met, 10, true);
                CHECK.due("promise 7: " + condition + " when " + met + " is met", court.state(0, 10, met + 1), met >= condition ? 6 : 2);
            }
        }
    }

    private static void promise7NoSuchPlaceDayTenseCondition() {
        for (int none : new int[] {-1, -2, 4, 5, LEAST, GREATEST}) {
            refused(7, "place " + none, court -> court.promise(0, 1, none, 0, 0, -1));
        }
        for (int none : NO_DAYS) {
            refused(7, "day " + none, court -> court.promise(0, 1, 0, none, 0, -1));
        }
        for (int none : new int[] {-1, -2, 2, 3, LEAST, GREATEST}) {
            refused(7, "tense " + none, court -> court.promise(0, 1, 0, 0, none, -1));
        }
        for (int none : NO_CONDITIONS) {
            refused(7, "condition " + none, court -> court.promise(0, 1, 0, 0, 0, none));
        }
    }

    private static void promise8TwentyFromZeroOn() {
        PromiseCourt court = CHECK.court(2, "");
        court.promise(0, 1, 0, 0, 0, -1);
        for (int i = 0; i < 20; i++) {
            CHECK.due("promise 8: gift " + i, court.gift(0, i % 2, i + 1), i);
            CHECK.due("promise 8: gifts behind " + i, court.count(2), i + 1);
        }
        CHECK.due("promise 8: a 21st", court.gift(0, 0, 1), -1);
        CHECK.due("promise 8: still twenty", court.count(2), 20);
        CHECK.due("promise 8: the twentieth of twenty", Courts.nearlyFull().gift(8, 1, 1000), 19);
    }

    private static void promise8TwentyAreThere() {
        refusedWhenFull(8, "a 21st", court -> court.gift(0, 0, 1));
        refusedWhenFull(8, "a 21st of the last promise", court -> court.gift(9, 1, 1000));
    }

    private static void promise8FirstAndLastOfEach() {
        CHECK.due("promise 8: promise 0", Courts.told().gift(0, 0, 1), 4);
        CHECK.due("promise 8: promise 3", Courts.told().gift(3, 0, 1), 4);
        for (int giver = 0; giver < 2; giver++) {
            for (int value : new int[] {1, 2, 999, 1000}) {
                PromiseCourt court = CHECK.court(2, Courts.ALL_PROVED + "bar if 1 == 1; back 100;");
                court.promise(0, 1, 0, 0, 0, -1);
                CHECK.due("promise 8: value " + value, court.gift(0, giver, value), 0);
                CHECK.due("promise 8: what goes back of " + value, court.goes(0, 0, 0), value);
                CHECK.due("promise 8: what the first owes", court.owes(0, 0, 0), giver == 0 ? -value : value);
            }
        }
    }

    private static void promise8NoSuchPromiseGiverValue() {
        for (int none : NO_PROMISES) {
            refused(8, "promise " + none, court -> court.gift(none, 0, 1));
        }
        for (int none : new int[] {-1, -2, 2, 3, LEAST, GREATEST}) {
            refused(8, "giver " + none, court -> court.gift(0, none, 1));
        }
        for (int none : new int[] {0, -1, 1001, 1002, LEAST, GREATEST}) {
            refused(8, "value " + none, court -> court.gift(0, 0, none));
        }
        CHECK.due("promise 8: nothing is promised", new PromiseCourt().gift(0, 0, 1), -1);
    }

    private static void promise9FirstAndLastWitness() {
        PromiseCourt court = CHECK.court(12, "proof if yes == 1; proof if yes == 2; proof if yes == 3; proof if yes == 4;");
        court.promise(1, 2, 0, 0, 0, -1);
        int[] witnesses = {100, 119, 0, 11};
        for (int i = 0; i < 4; i++) {
            CHECK.due("promise 9: witness " + witnesses[i], court.says(witnesses[i], 0, true), i);
            CHECK.due("promise 9: heard", court.proved(0, i + 1), i);
        }
        PromiseCourt strangers = CHECK.court(2, "proof if yes == 20;");
        strangers.promise(0, 1, 0, 0, 0, -1);
        for (int i = 0; i < 20; i++) {
            CHECK.due("promise 9: not yet twenty", strangers.proved(0, i), -1);
            CHECK.due("promise 9: stranger " + (100 + i), strangers.says(100 + i, 0, true), i);
        }
        CHECK.due("promise 9: twenty strangers", strangers.proved(0, 20), 0);
        CHECK.due("promise 9: the first promise", Courts.told().says(100, 0, false), 9);
        CHECK.due("promise 9: the last promise", Courts.told().says(100, 3, false), 9);
    }

    private static void promise9NoSuchWitnessOrPromise() {
        for (int none : new int[] {-1, -2, 5, 6, 11, 12, 13, 99, 120, 121, LEAST, GREATEST}) {
            refused(9, "witness " + none + " says yes", court -> court.says(none, 0, true));
            refused(9, "witness " + none + " says no", court -> court.says(none, 0, false));
        }
        for (int none : NO_PROMISES) {
            refused(9, "a stranger of promise " + none, court -> court.says(100, none, true));
            refused(9, "a person of promise " + none, court -> court.says(4, none, false));
        }
        CHECK.due("promise 9: nothing is promised", new PromiseCourt().says(100, 0, true), -1);
    }

    /** Promise 0 is of 0 and 3, promise 1 of 3 and 1, promise 2 of 2 and 0, promise 3 of 4 and 2. */
    private static void promise9OneOfBoth() {
        int[][] pairs = {{0, 3}, {3, 1}, {2, 0}, {4, 2}};
        for (int promise = 0; promise < 4; promise++) {
            for (int person = 0; person < 5; person++) {
                int p = promise;
                int w = person;
                if (person == pairs[p][0] || person == pairs[p][1]) {
                    refused(9, w + " says yes of its own " + p, court -> court.says(w, p, true));
                    refused(9, w + " says no of its own " + p, court -> court.says(w, p, false));
                } else {
                    CHECK.due("promise 9: " + w + " says of " + p, Courts.told().says(w, p, true), 9);
                }
            }
        }
    }

    private static void promise10FirstAndLastPromise() {
        PromiseCourt court = CHECK.court(2, "proof if fame == 1; proof if fame == 2;");
        for (int p = 0; p < 10; p++) {
            court.promise(0, 1, 0, 0, 0, -1);
        }
        CHECK.due("promise 10: the last promise", court.fame(9), 0);
        CHECK.due("promise 10: the first promise", court.fame(0), 1);
        CHECK.due("promise 10: the first promise again", court.fame(0), 2);
        CHECK.due("promise 10: the fame of the last", court.proved(9, 3), 0);
        CHECK.due("promise 10: the fame of the first", court.proved(0, 2), 0);
        CHECK.due("promise 10: the first's two fames", court.proved(0, 3), 1);
        CHECK.due("promise 10: no fame of another", court.proved(1, 3), -1);
    }

    private static void promise10NoSuchPromise() {
        for (int none : NO_PROMISES) {
            refused(10, "fame of " + none, court -> court.fame(none));
        }
        CHECK.due("promise 10: nothing is promised", new PromiseCourt().fame(0), -1);
    }

    private static void promise11FirstAndLastOfEach() {
        for (int condition : new int[] {0, 5}) {
            for (int day : new int[] {0, 9999}) {
                PromiseCourt court = CHECK.court(2, Courts.ALL_PROVED);
                court.promise(0, 1, 0, 0, 0, condition);
                CHECK.due("promise 11: met on " + day, court.comes(condition, day, true), 0);
                CHECK.due("promise 11: the effect of " + condition, court.force(0, 1, 0), day);
                PromiseCourt other = CHECK.court(2, Courts.ALL_PROVED);
                other.promise(0, 1, 0, 0, 0, condition);
                CHECK.due("promise 11: fails on " + day, other.comes(condition, day, false), 0);
                CHECK.due("promise 11: it failed by " + condition, other.state(0, day, 1), 3);
            }
        }
        CHECK.due("promise 11: of which nobody spoke", new PromiseCourt().comes(0, 0, true), 0);
    }

    private static void promise11NoSuchConditionOrDay() {
        for (boolean met : new boolean[] {true, false}) {
            refused(11, "condition -1", court -> court.comes(-1, 0, met));
            for (int none : NO_CONDITIONS) {
                refused(11, "condition " + none, court -> court.comes(none, 0, met));
            }
            for (int none : NO_DAYS) {
                refused(11, "day " + none, court -> court.comes(0, none, met));
            }
        }
    }

    private static void promise12FirstAndLastOfEach() {
        int fact = 0;
        PromiseCourt court = new PromiseCourt();
        Check.strangers(court, 12);
        for (int kind = 0; kind < 4; kind++) {
            for (int person : new int[] {0, 11}) {
                for (int day : new int[] {0, 9999}) {
                    CHECK.due("promise 12: " + kind + " of " + person + " on " + day, court.fate(kind, person, day), fact++);
                }
            }
        }
    }

    private static void promise12NoSuchOnes() {
        for (int none : new int[] {-1, -2, 4, 5, 9, LEAST, GREATEST}) {
            refused(12, "kind " + none, court -> court.fate(none, 0, 0));
        }
        for (int kind = 0; kind < 4; kind++) {
            int which = kind;
            for (int none : NO_PERSONS) {
                refused(12, kind + " of person " + none, court -> court.fate(which, none, 0));
            }
            for (int none : NO_DAYS) {
                refused(12, kind + " on day " + none, court -> court.fate(which, 0, none));
            }
        }
        CHECK.due("promise 12: nobody is there", new PromiseCourt().fate(0, 0, 0), -1);
    }

    private static void promise13FirstAndLastOfEach() {
        for (int day : new int[] {0, 9999}) {
            PromiseCourt court = CHECK.court(12, Courts.ALL_PROVED + "bar if leave == 1;");
            court.promise(11, 0, 0, day, 0, -1);
            CHECK.due("promise 13: on day " + day, court.leave(0, 11, day), 0);
            CHECK.due("promise 13: from day " + day + " on", court.barred(0, 1), 1);
            CHECK.due("promise 13: the other way round", court.leave(11, 0, day), 1);
        }
    }

    private static void promise13NoSuchPersonsOrDay() {
        for (int none : NO_PERSONS) {
            refused(13, "one " + none, court -> court.leave(none, 1, 0));
            refused(13, "other " + none, court -> court.leave(1, none, 0));
            refused(13, "both " + none, court -> court.leave(none, none, 0));
        }
        for (int person = 0; person < 5; person++) {
            int both = person;
            refused(13, "one and the same " + person, court -> court.leave(both, both, 0));
        }
        for (int none : NO_DAYS) {
            refused(13, "day " + none, court -> court.leave(0, 3, none));
        }
    }

    private static int fact(PromiseCourt court, int kind) {
        switch (kind) {
            case 0:
                return court.says(100, 0, true);
            case 1:
                return court.fame(0);
            case 2:
                return court.comes(0, 0, true);
            case 3:
                return court.fate(3, 5, 0);
            default:
                return court.leave(0, 1, 0);
        }
    }

    private static void promises9To13FactsFromZeroOn() {
        PromiseCourt court = Courts.fullButFacts();
        for (int i = 0; i < 200; i++) {
            CHECK.due("promise " + (9 + i % 5) + ": fact " + i, fact(court, i % 5), i);
        }
        CHECK.due("promises 9 to 13: 200 facts", court.count(3), 200);
        CHECK.due("promises 9 to 13: as known by 200", court.state(0, 0, 200), 1);
        CHECK.due("promises 9 to 13: as known by 201", court.state(0, 0, 201), -1);
    }

    private static void promises9To13TheLastFact() {
        for (int kind = 0; kind < 5; kind++) {
            PromiseCourt court = Courts.nearlyFull();
            CHECK.due("promise " + (9 + kind) + ": the 200th fact", fact(court, kind), 199);
            CHECK.due("promise " + (9 + kind) + ": a 201st", fact(court, kind), -1);
            CHECK.due("promise " + (9 + kind) + ": 200 facts", court.count(3), 200);
        }
    }

    private static void promises9To13TwoHundredAreThere() {
        refusedWhenFull(9, "a 201st says yes", court -> court.says(100, 9, true));
        refusedWhenFull(9, "a 201st says no", court -> court.says(119, 9, false));
        refusedWhenFull(10, "a 201st is fame", court -> court.fame(9));
        refusedWhenFull(11, "a 201st is met", court -> court.comes(0, 0, true));
        refusedWhenFull(11, "a 201st fails", court -> court.comes(5, 9999, false));
        for (int kind = 0; kind < 4; kind++) {
            int which = kind;
            refusedWhenFull(12, "a 201st is fate " + kind, court -> court.fate(which, 0, 0));
        }
        refusedWhenFull(13, "a 201st is leave", court -> court.leave(0, 1, 0));
    }

    private static void promise25EmptyAndFull() {
        int[] full = {12, 10, 20, 200, 8, 0};
        PromiseCourt empty = new PromiseCourt();
        PromiseCourt court = Courts.full();
        for (int what = 0; what < 6; what++) {
            CHECK.due("promise 25: count(" + what + ") when empty", empty.count(what), 0);
            CHECK.due("promise 25: count(" + what + ") when full", court.count(what), full[what]);
        }
        PromiseCourt tape = new PromiseCourt();
        Check.feed(tape, Check.times(2000, "x"));
        CHECK.due("promise 25: a full tape", tape.count(5), 2000);
        PromiseCourt told = Courts.told();
        int[] some = {5, 4, 4, 9, 1, 9};
        for (int what = 0; what < 6; what++) {
            CHECK.due("promise 25: count(" + what + ") of some", told.count(what), some[what]);
        }
    }

    private static void promise25NoneForOthers() {
        for (int none : new int[] {-1, -2, 6, 7, LEAST, GREATEST}) {
            refused(25, "count(" + none + ")", court -> court.count(none));
        }
    }
}
