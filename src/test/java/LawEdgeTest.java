/** Promises 16 and 17 at their edges: from when and till when a law is in force, wrapped ints, KIN, and n. */
public final class LawEdgeTest {
    private static final Check CHECK = new Check();
    private static final int LEAST = Integer.MIN_VALUE;
    private static final int GREATEST = Integer.MAX_VALUE;
    private static final String[] VARS =
        {"yes", "no", "kin", "fame", "tense", "age", "degree", "vow", "leave", "old", "why", "days"};
    // The greatest and the least int, in INTS of four digits.
    private static final String MOST = "(2048 * 1024 * 1024 - 1)";
    private static final String FEWEST = "(2048 * 1024 * 1024)";

    public static void main(String[] args) {
        promise16FromADayOn();
        promise16TillThatOfAnother();
        promise16OfOneDayTheLastRead();
        promise16FirstAndLastDay();
        promise16OtherPlaces();
        promise16ByItsOwnDay();
        promise16EightLaws();
        promise16TextsWithAFaultAreNotCounted();
        promise16NoSuchPromise();
        promise17WithoutALawNoRuleHolds();
        promise17FirstAndLastRule();
        promise17IntsWrap();
        promise17Relations();
        promise17OperatorsInTheirOrder();
        promise17DeepestParentheses();
        promise17LongestRule();
        promise17VarsThatProofHasNot();
        promise17KinOfFourAndFive();
        promise17NoOfKinCountsNowhere();
        promise17EachAsItSaidLast();
        promise17NobodySaysAnything();
        promise17TwoHundredFames();
        promise17KnownByNone();
        promise17NoSuchOnes();
        CHECK.finish();
    }

    /** The law of a promise that is made at a place on a day. */
    private static void law(PromiseCourt court, int place, int day, int want) {
        int promise = court.promise(0, 1, place, day, 0, -1);
        CHECK.due("promise 16: at " + place + " on " + day, court.law(promise), want);
    }

    private static PromiseCourt couple() {
        PromiseCourt court = new PromiseCourt();
        Check.strangers(court, 2);
        return court;
    }

    private static void promise16FromADayOn() {
        PromiseCourt court = couple();
        law(court, 0, 500, -1);
        court.read(0, 500);
        law(court, 0, 0, -1);
        law(court, 0, 499, -1);
        law(court, 0, 500, 0);
        law(court, 0, 501, 0);
        law(court, 0, 9999, 0);
        CHECK.due("promise 16: of a promise that was there", court.law(0), 0);
    }

    private static void promise16TillThatOfAnother() {
        PromiseCourt court = couple();
        court.read(0, 500);
        court.read(0, 600);
        court.read(0, 550);
        law(court, 0, 499, -1);
        law(court, 0, 500, 0);
        law(court, 0, 549, 0);
        law(court, 0, 550, 2);
        law(court, 0, 599, 2);
        law(court, 0, 600, 1);
        law(court, 0, 9999, 1);
    }

    private static void promise16OfOneDayTheLastRead() {
        PromiseCourt court = couple();
        law(court, 0, 500, -1);
        for (int i = 0; i < 4; i++) {
            court.read(0, 500);
            CHECK.due("promise 16: the last read of 500", court.law(0), i);
        }
        court.read(0, 499);
        CHECK.due("promise 16: one of an earlier day", court.law(0), 3);
        court.read(0, 501);
        CHECK.due("promise 16: one of a later day", court.law(0), 3);
    }

    private static void promise16FirstAndLastDay() {
        PromiseCourt court = couple();
        court.read(0, 0);
        court.read(0, 9999);
        law(court, 0, 0, 0);
        law(court, 0, 9998, 0);
        law(court, 0, 9999, 1);
    }

    private static void promise16OtherPlaces() {
        PromiseCourt court = couple();
        court.read(3, 100);
        court.read(1, 200);
        court.read(3, 300);
        law(court, 3, 250, 0);
        law(court, 1, 250, 1);
        law(court, 1, 199, -1);
        law(court, 1, 9999, 1);
        law(court, 3, 300, 2);
        law(court, 0, 9999, -1);
        law(court, 2, 9999, -1);
    }

    /** The law is that of the promise's DAY, though its EFFECT falls under a later one. */
    private static void promise16ByItsOwnDay() {
        PromiseCourt court = couple();
        Check.read(court, "proof if 1 == 1; bar if vow == 1; back 10;", 0, 100);
        Check.read(court, "back 20;", 0, 101);
        court.promise(0, 1, 0, 100, 0, 3);
        court.gift(0, 0, 100);
        court.comes(3, 500, true);
        court.fate(1, 0, 500);
        CHECK.due("promise 16: met under a later law", court.law(0), 0);
        CHECK.due("promise 17: met under a later law", court.proved(0, 2), 0);
        CHECK.due("promise 18: met under a later law", court.barred(0, 2), 1);
        CHECK.due("promise 22: met under a later law", court.goes(0, 500, 2), 10);
    }

    private static void promise16EightLaws() {
        PromiseCourt court = couple();
        for (int i = 0; i < 8; i++) {
            court.read(0, 1000 * i);
        }
        for (int i = 0; i < 8; i++) {
            law(court, 0, 1000 * i + (i % 2) * 999, i);
        }
        court.read(0, 0);
        CHECK.due("promise 16: a ninth is none", court.law(0), 0);
    }

    private static void promise16TextsWithAFaultAreNotCounted() {
        PromiseCourt court = couple();
        Check.read(court, "#", 0, 0);
        Check.read(court, "", 0, 0);
        law(court, 0, 100, 0);
        Check.read(court, "proof if 1 == 1; #", 0, 50);
        CHECK.due("promise 16: a fault of a later day", court.law(0), 0);
        CHECK.due("promise 17: a rule ahead of a fault", court.proved(0, 0), -1);
        Check.read(court, "", 0, 50);
        CHECK.due("promise 16: the second without a fault", court.law(0), 1);
    }

    private static void promise16NoSuchPromise() {
        Twins twins = new Twins(CHECK, "promise 16", Courts::told);
        for (int none : new int[] {-1, -2, 4, 5, 9, 10, LEAST, GREATEST}) {
            twins.refused("law of " + none, -1, court -> court.law(none));
        }
        CHECK.due("promise 16: nothing is promised", new PromiseCourt().law(0), -1);
        CHECK.due("promise 16: the tenth of ten", Courts.full().law(9), 5);
        CHECK.due("promise 16: an eleventh", Courts.full().law(10), -1);
    }

    private static void promise17WithoutALawNoRuleHolds() {
        PromiseCourt court = couple();
        court.promise(0, 1, 0, 100, 0, -1);
        court.gift(0, 0, 100);
        court.says(100, 0, true);
        for (int round = 0; round < 2; round++) {
            CHECK.due("promise 17: without a law", court.proved(0, 1), -1);
            CHECK.due("promise 18: without a law", court.barred(0, 1), -1);
            CHECK.due("promise 19: without a law", court.state(0, 9999, 1), 0);
            CHECK.due("promise 20: without a law", court.force(0, 1, 0), -2);
            CHECK.due("promise 21: without a law", court.bound(0, 9999, 1), -1);
            CHECK.due("promise 22: without a law", court.goes(0, 9999, 1), 0);
            // The second time there is a law, but from the day behind it on.
            Check.read(court, Courts.ALL_PROVED + "back 100;", 0, 101);
        }
    }

    private static void promise17FirstAndLastRule() {
        for (int rule = 0; rule < 16; rule++) {
            PromiseCourt court = CHECK.court(2, Check.times(rule, "proof if 1 == 2;") + Check.times(16 - rule, Courts.ALL_PROVED));
            court.promise(0, 1, 0, 0, 0, -1);
            CHECK.due("promise 17: rule " + rule, court.proved(0, 0), rule);
        }
        PromiseCourt none = CHECK.court(2, Check.times(16, "proof if 1 == 2;"));
        none.promise(0, 1, 0, 0, 0, -1);
        CHECK.due("promise 17: no rule holds", none.proved(0, 0), -1);
        PromiseCourt others = CHECK.court(2, "bar if 1 == 2; over if 1 == 1; lapse 1; back 1;" + Courts.ALL_PROVED);
        others.promise(0, 1, 0, 0, 0, -1);
        CHECK.due("promise 17: rules of other sorts are numbered too", others.proved(0, 0), 4);
    }

    private static void cond(String cond, boolean holds) {
        PromiseCourt court = CHECK.court(2, "proof if " + cond + ";");
        court.promise(0, 1, 0, 0, 1, -1);
        CHECK.due("promise 17: " + cond, court.proved(0, 0), holds ? 0 : -1);
    }

    private static void promise17IntsWrap() {
        cond("0 < " + MOST, true);
        cond(FEWEST + " < 0", true);
        cond(FEWEST + " < " + MOST, true);
        cond(MOST + " + 1 == " + FEWEST, true);
        cond(FEWEST + " - 1 == " + MOST, true);
        cond("0 - " + FEWEST + " == " + FEWEST, true);
        cond("0 - " + MOST + " - 1 == " + FEWEST, true);
        cond(MOST + " + " + MOST + " == 0 - 2", true);
        cond(MOST + " * 2 == 0 - 2", true);
        cond(MOST + " * " + MOST + " == 1", true);
        cond(FEWEST + " * 2 == 0", true);
        cond("256 * 256 * 256 * 256 == 0", true);
        cond("0 < 9999 * 9999 * 21", true);
        cond("9999 * 9999 * 22 < 0", true);
        cond("9999 * 9999 * 9999 < 0", true);
        cond("1 - 2 < 0", true);
        cond("1 - 2 == 0", false);
    }

    private static void promise17Relations() {
        String[] signs = {"==", "!=", "<", "<="};
        boolean[][] holds = {{false, true, true, true}, {true, false, false, true}, {false, true, false, false}};
        String[][] pairs = {{"1", "2"}, {"2", "2"}, {"3", "2"}};
        for (int pair = 0; pair < 3; pair++) {
            for (int sign = 0; sign < 4; sign++) {
                cond(pairs[pair][0] + signs[sign] + pairs[pair][1], holds[pair][sign]);
            }
        }
        cond("9999 == 9998 + 1", true);
        cond("0010 == 10", true);
        cond("0 == 0000", true);
    }

    private static void promise17OperatorsInTheirOrder() {
        cond("10 - 3 - 2 == 5", true);
        cond("10 - 3 + 2 == 9", true);
        cond("2 + 3 * 4 == 14", true);
        cond("2 * 3 + 4 == 10", true);
        cond("20 - 2 * 3 * 2 - 1 == 7", true);
        cond("(2 + 3) * 4 == 20", true);
        cond("10 - (3 - 2) == 9", true);
        String[] truths = {"1 == 2", "1 == 1"};
        for (int ways = 0; ways < 16; ways++) {
            boolean a = (ways & 1) != 0;
            boolean b = (ways & 2) != 0;
            boolean c = (ways & 4) != 0;
            boolean d = (ways & 8) != 0;
            String[] t = {truths[a ? 1 : 0], truths[b ? 1 : 0], truths[c ? 1 : 0], truths[d ? 1 : 0]};
            cond(t[0] + " and " + t[1] + " or " + t[2] + " and " + t[3], a && b || c && d);
            cond(t[0] + " or " + t[1] + " and " + t[2] + " or " + t[3], a || b && c || d);
            cond(t[0] + " and " + t[1] + " and " + t[2] + " and " + t[3], a && b && c && d);
            cond(t[0] + " or " + t[1] + " or " + t[2] + " or " + t[3], a || b || c || d);
        }
    }

    private static void promise17DeepestParentheses() {
        cond("((((((7)))))) == 7", true);
        cond("1 - (2 - (3 - (4 - (5 - (6 - (7)))))) == 4", true);
        cond("2 * (1 + 2 * (1 + 2 * (1 + 2 * (1 + 2 * (1 + 2 * (1 + tense)))))) == 190", true);
        cond("0 - 1 * (2) * (3) - (4) == 0 - 10", true);
    }

    /** 400 TOKENS: the last of them are reckoned too. */
    private static void promise17LongestRule() {
        cond("1" + Check.times(197, "+1") + " == 198", true);
        cond("198 == 1" + Check.times(197, "+1"), true);
        cond("1 == 2" + Check.times(97, " or 1 == 2") + " or 1 + 0 == 1", true);
        cond("1 == 2" + Check.times(97, " or 1 == 2") + " or 1 + 1 == 1", false);
        cond("1 == 1" + Check.times(97, " and 1 == 1") + " and 1 + 1 == 1", false);
    }

    private static void promise17VarsThatProofHasNot() {
        for (int var = 5; var < 12; var++) {
            PromiseCourt court = CHECK.court(2, "proof if " + VARS[var] + " != 0; proof if " + VARS[var] + " == 0 and tense == 1;");
            court.promise(0, 1, 0, 5000, 1, -1);
            court.fate(1, 0, 0);
            court.leave(0, 1, 0);
            CHECK.due("promise 17: " + VARS[var] + " is 0", court.proved(0, 2), 1);
        }
    }

    /** A line of eleven: 5 promises to 11, who is kin to nobody; 1 and 9 are at four steps, 0 and 10 at five. */
    private static PromiseCourt line(String law, boolean lineFirst) {
        PromiseCourt court = new PromiseCourt();
        court.person(-1, -1, 0);
        for (int i = 1; i < 11; i++) {
            court.person(i - 1, -1, i);
        }
        court.person(-1, -1, 0);
        Check.read(court, law, 0, 0);
        court.promise(lineFirst ? 5 : 11, lineFirst ? 11 : 5, 0, 0, 0, -1);
        return court;
    }

    private static void promise17KinOfFourAndFive() {
        for (int witness = 0; witness < 11; witness++) {
            for (int side = 0; side < 2; side++) {
                boolean kin = witness > 0 && witness < 10;
                PromiseCourt court = line("proof if kin == 1 and yes == 0; proof if yes == 1 and kin == 0;", side == 0);
                if (witness != 5) {
                    court.says(witness, 0, true);
                    CHECK.due("promise 17: " + witness + " says yes of 5", court.proved(0, 1), kin ? 0 : 1);
                }
            }
        }
    }

    private static void promise17NoOfKinCountsNowhere() {
        for (int side = 0; side < 2; side++) {
            PromiseCourt court = line("proof if no == 1; proof if yes + no + kin == 0;", side == 0);
            court.says(1, 0, false);
            CHECK.due("promise 17: a no at four", court.proved(0, 1), 1);
            court.says(9, 0, false);
            CHECK.due("promise 17: another no at four", court.proved(0, 2), 1);
            court.says(0, 0, false);
            CHECK.due("promise 17: a no at five", court.proved(0, 3), 0);
        }
    }

    private static void promise17EachAsItSaidLast() {
        PromiseCourt court = CHECK.court(3, "proof if yes == 1 and no == 0; proof if yes == 0 and no == 1; proof if yes == 0 and no == 0;");
        court.promise(0, 1, 0, 0, 0, -1);
        court.promise(0, 1, 0, 0, 0, -1);
        boolean[] words = {true, true, false, false, true};
        for (int i = 0; i < words.length; i++) {
            court.says(100, 0, words[i]);
            CHECK.due("promise 17: as it said at " + i, court.proved(0, i + 1), words[i] ? 0 : 1);
        }
        for (int n = 1; n <= words.length; n++) {
            CHECK.due("promise 17: as it had said by " + n, court.proved(0, n), words[n - 1] ? 0 : 1);
            CHECK.due("promise 17: nobody said it of another", court.proved(1, n), 2);
        }
    }

    private static void promise17NobodySaysAnything() {
        PromiseCourt court = CHECK.court(2, "proof if yes + no + kin + fame != 0; proof if yes == 0 and no == 0 and kin == 0 and fame == 0;");
        court.promise(0, 1, 0, 0, 0, -1);
        CHECK.due("promise 17: no facts", court.proved(0, 0), 1);
        court.comes(0, 0, true);
        court.fate(0, 0, 0);
        court.leave(0, 1, 0);
        CHECK.due("promise 17: facts that say nothing of it", court.proved(0, 3), 1);
    }

    private static void promise17TwoHundredFames() {
        PromiseCourt court = CHECK.court(2, "proof if fame == 200; proof if fame == 199;");
        court.promise(0, 1, 0, 0, 0, -1);
        for (int i = 0; i < 200; i++) {
            court.fame(0);
        }
        CHECK.due("promise 17: 200 fames", court.proved(0, 200), 0);
        CHECK.due("promise 17: 199 fames", court.proved(0, 199), 1);
        CHECK.due("promise 17: 198 fames", court.proved(0, 198), -1);
    }

    private static void promise17KnownByNone() {
        PromiseCourt court = CHECK.court(2, "proof if fame == 0; proof if fame == 1; proof if fame == 2;");
        court.promise(0, 1, 0, 0, 0, -1);
        court.fame(0);
        court.fame(0);
        for (int n = 0; n <= 2; n++) {
            CHECK.due("promise 17: as known by " + n, court.proved(0, n), n);
        }
        CHECK.due("promise 17: as known by 3 of 2", court.proved(0, 3), -1);
        court.fame(0);
        CHECK.due("promise 17: as known by 3", court.proved(0, 3), -1);
        CHECK.due("promise 17: still, as known by 2", court.proved(0, 2), 2);
    }

    private static void promise17NoSuchOnes() {
        Twins twins = new Twins(CHECK, "promise 17", Courts::told);
        for (int none : new int[] {-1, -2, 4, 5, 9, 10, LEAST, GREATEST}) {
            twins.refused("proved(" + none + ", 9)", -1, court -> court.proved(none, 9));
        }
        for (int none : new int[] {-1, -2, 10, 11, 200, 201, LEAST, GREATEST}) {
            twins.refused("proved(0, " + none + ")", -1, court -> court.proved(0, none));
        }
        CHECK.due("promise 17: of nine", Courts.told().proved(0, 9), 0);
        CHECK.due("promise 17: of none", Courts.told().proved(0, 0), -1);
        CHECK.due("promise 17: nothing is promised", new PromiseCourt().proved(0, 0), -1);
        CHECK.due("promise 17: of 200", Courts.full().proved(9, 200), 0);
        CHECK.due("promise 17: of 201", Courts.full().proved(9, 201), -1);
    }
}
