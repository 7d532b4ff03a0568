/** Promises 4 and 5 at their edges: which reads are refused, TOKENS, what a text goes on with, and ROOM. */
public final class ReadEdgeTest {
    private static final Check CHECK = new Check();
    private static final String RULES = "proof bar over lapse back ";
    private static final String UNITS = "7 yes no kin fame tense age degree vow leave old why days ( ";
    private static final String SUMS = "+ - * ";
    private static final String RELATIONS = "== != < <= ";
    private static final String[] ALL = (RULES + UNITS + SUMS + RELATIONS + "if or and ; )").split(" ");

    public static void main(String[] args) {
        promise4FirstAndLastPlace();
        promise4FirstAndLastDay();
        promise4NoSuchPlaceOrDay();
        promise4EightAreThere();
        promise4TextsWithAFaultAreNotAmongTheEight();
        promise4TapeIsEmptyThen();
        promise4EmptyText();
        promise4LongestText();
        promise4TextWithAFaultChangesNothing();
        promise4NextTextBeginsAnew();
        promise4Blanks();
        promise4Words();
        promise4WordsWithAnotherLetter();
        promise4Ints();
        promise4LongestSigns();
        promise4WhatATextGoesOnWith();
        promise4TextsEnd();
        promise4Room400Tokens();
        promise4Room16Rules();
        promise4Room6Parentheses();
        promise4FirstFaultByItsPlace();
        promise4OfOnePlaceTheLeast();
        promise5NoneWithout();
        promise5FirstAndLastByte();
        promise5StaysBehindARefusedRead();
        CHECK.finish();
    }

    /** What read() and place() answer to a text on a new object. */
    private static void due(String text, int fault, int place) {
        PromiseCourt court = new PromiseCourt();
        CHECK.due("promise 4: '" + text + "'", Check.read(court, text, 0, 0), fault);
        CHECK.due("promise 5: '" + text + "'", court.place(), place);
        CHECK.due("promise 4: laws behind '" + text + "'", court.count(4), fault == 0 ? 1 : 0);
    }

    private static void good(String text) {
        due(text, 0, -1);
    }

    private static void promise4FirstAndLastPlace() {
        for (int place = 0; place < 4; place++) {
            PromiseCourt court = new PromiseCourt();
            Check.strangers(court, 2);
            for (int p = 0; p < 4; p++) {
                court.promise(0, 1, p, 100, 0, -1);
            }
            CHECK.due("promise 4: place " + place, Check.read(court, Courts.ALL_PROVED, place, 100), 0);
            for (int p = 0; p < 4; p++) {
                CHECK.due("promise 4: of place " + place + " at " + p, court.law(p), p == place ? 0 : -1);
            }
        }
    }

    private static void promise4FirstAndLastDay() {
        for (int day : new int[] {0, 1, 9998, 9999}) {
            PromiseCourt court = new PromiseCourt();
            Check.strangers(court, 2);
            court.promise(0, 1, 0, day, 0, -1);
            court.promise(0, 1, 0, day == 0 ? 9999 : day - 1, 0, -1);
            CHECK.due("promise 4: day " + day, Check.read(court, "", 0, day), 0);
            CHECK.due("promise 4: on day " + day, court.law(0), 0);
            CHECK.due("promise 4: ahead of day " + day, court.law(1), day == 0 ? 0 : -1);
        }
    }

    private static void promise4NoSuchPlaceOrDay() {
        Twins twins = new Twins(CHECK, "promise 4", Courts::told);
        for (int none : new int[] {-1, -2, 4, 5, Integer.MIN_VALUE, Integer.MAX_VALUE}) {
            twins.refused("read of place " + none, -1, court -> court.read(none, 0));
        }
        for (int none : new int[] {-1, -2, 10000, 10001, Integer.MIN_VALUE, Integer.MAX_VALUE}) {
            twins.refused("read of day " + none, -1, court -> court.read(0, none));
        }
        twins.refused("read of no place and no day", -1, court -> court.read(4, 10000));
    }

    private static void promise4EightAreThere() {
        CHECK.due("promise 4: the eighth law", Courts.nearlyFull().read(3, 9999), 0);
        Twins twins = new Twins(CHECK, "promise 4", ReadEdgeTest::eightLawsAndATape);
        twins.refused("a ninth law", -1, court -> court.read(0, 0));
        twins.refused("a ninth law of no place", -1, court -> court.read(-1, 0));
        PromiseCourt fault = eightLawsAndATape();
        fault.back(3);
        CHECK.due("promise 4: a fault behind eight laws", fault.read(0, 0), -1);
        CHECK.due("promise 4: its tape stays", fault.count(5), 6);
    }

    private static PromiseCourt eightLawsAndATape() {
        PromiseCourt court = Courts.full();
        Check.feed(court, "lapse 12;");
        return court;
    }

    private static void promise4TextsWithAFaultAreNotAmongTheEight() {
        PromiseCourt court = new PromiseCourt();
        for (int i = 0; i < 30; i++) {
            CHECK.due("promise 4: a fault", Check.read(court, "#", 0, 0), 1);
        }
        for (int i = 1; i <= 8; i++) {
            CHECK.due("promise 4: law " + i + " behind faults", Check.read(court, "", 0, 0), 0);
            CHECK.due("promise 4: laws", court.count(4), i);
        }
        CHECK.due("promise 4: a ninth", Check.read(court, "", 0, 0), -1);
        CHECK.due("promise 4: eight laws", court.count(4), 8);
    }

    private static void promise4TapeIsEmptyThen() {
        PromiseCourt court = new PromiseCourt();
        CHECK.due("promise 4: a law", Check.read(court, "lapse 1;", 0, 0), 0);
        CHECK.due("promise 4: the tape behind a law", court.count(5), 0);
        CHECK.due("promise 4: a fault", Check.read(court, "lapse 1#;", 0, 0), 1);
        CHECK.due("promise 4: the tape behind a fault", court.count(5), 0);
        CHECK.due("promise 4: nothing of it is left", court.read(0, 0), 0);
        CHECK.due("promise 4: the next text begins at 0", Check.read(court, "#", 0, 0), 1);
        CHECK.due("promise 5: the next text begins at 0", court.place(), 0);
    }

    private static void promise4EmptyText() {
        good("");
        good(" ");
        good("\t\n\r ");
        good(Check.times(2000, " "));
    }

    private static void promise4LongestText() {
        good(Check.times(1992, " ") + "lapse 1;");
        good("lapse 1;" + Check.times(1992, " "));
        due(Check.times(1992, " ") + "lapse 12", 1, 2000);
        due(Check.times(1999, " ") + "#", 1, 1999);
    }

    /** All is as if it had not been read, but for place() and the tape. */
    private static void promise4TextWithAFaultChangesNothing() {
        for (String text : new String[] {"#", "proof if 1 == 1; lapse 0", Check.times(17, "proof if 1 == 1;")}) {
            PromiseCourt one = Courts.told();
            PromiseCourt other = Courts.told();
            one.back(9);
            other.back(9);
            int fault = Check.read(one, text, 0, 0);
            CHECK.due("promise 4: a fault in " + text, fault == 1 || fault == 2 ? 1 : 0, 1);
            new Twins(CHECK, "promise 4", Courts::told).alike("behind " + text, one, other);
        }
    }

    /** What was open in a text with a fault is not open in the next one. */
    private static void promise4NextTextBeginsAnew() {
        String[] faults = {"back ((((((1", "proof", "proof if 1 < 2", "lapse 1; lapse 1; lapse 1", "back 1 if", "back (((((((",
            Check.times(17, "lapse 1;"), "back 1" + Check.times(200, "+1")};
        for (String fault : faults) {
            PromiseCourt court = new PromiseCourt();
            Check.read(court, fault, 0, 0);
            CHECK.due("promise 4: sixteen rules behind " + fault, Check.read(court, Check.times(16, "back ((((((1))))));"), 0, 0), 0);
            Check.read(court, fault, 0, 0);
            CHECK.due("promise 4: a ) behind " + fault, Check.read(court, "back 1);", 0, 0), 1);
            CHECK.due("promise 5: a ) behind " + fault, court.place(), 6);
            Check.read(court, fault, 0, 0);
            CHECK.due("promise 4: no relation behind " + fault, Check.read(court, "proof if 1;", 0, 0), 1);
            CHECK.due("promise 5: no relation behind " + fault, court.place(), 10);
        }
    }

    private static void promise4Blanks() {
        for (int b = 0; b < 256; b++) {
            boolean blank = b == 9 || b == 10 || b == 13 || b == 32;
            boolean digit = b >= '0' && b <= '9';
            boolean letter = b >= 'a' && b <= 'z';
            boolean fits = blank || digit;
            due("lapse" + (char) b + "1;", fits ? 0 : 1, fits ? -1 : letter ? 0 : 5);
            due("lapse 1;" + (char) b, blank ? 0 : 1, blank ? -1 : 8);
        }
        good("\r\n\tlapse\t\n\r 1 \n;\n");
        good("proof if(1)<2and(3)!=4or 5==6;lapse7;back(8)if 9<=9;");
    }

    private static void promise4Words() {
        due("proof if degrees < 1;", 1, 9);
        due("proof if degre < 1;", 1, 9);
        due("proof if abcdefgh < 1;", 1, 9);
        due("proof if abcdefghi < 1;", 1, 9);
        due("proof if yesnokin < 1;", 1, 9);
        due("proof if tensetense < 1;", 1, 9);
        due("proof if " + Check.times(1900, "a"), 1, 9);
        due("proofif 1 < 2;", 1, 0);
        due("backyes;", 1, 0);
        due("p roof if 1 < 2;", 1, 0);
        due("PROOF if 1 < 2;", 1, 0);
        due("proof If 1 < 2;", 1, 6);
        due("proof if yeS < 2;", 1, 9);
    }

    private static void promise4WordsWithAnotherLetter() {
        for (String word : (UNITS + "and or").split(" ")) {
            for (int i = 0; i < word.length() && word.length() > 1; i++) {
                String other = word.substring(0, i) + "q" + word.substring(i + 1);
                boolean unit = UNITS.contains(word);
                due("proof if " + (unit ? other : "1 < 2 " + other), 1, unit ? 9 : 15);
            }
        }
        for (String word : RULES.split(" ")) {
            for (int i = 0; i < word.length(); i++) {
                due(word.substring(0, i) + "q" + word.substring(i + 1), 1, 0);
            }
        }
        due("proof qf", 1, 6);
        due("proof iq", 1, 6);
    }

    private static void promise4Ints() {
        good("lapse 0;");
        good("lapse 9;");
        good("lapse 9999;");
        good("lapse 0000;");
        due("lapse 10000;", 1, 6);
        due("lapse 00000;", 1, 6);
        due("lapse 2147483648;", 1, 6);
        due("lapse 4294967297;", 1, 6);
        due("lapse " + Check.times(1900, "0") + ";", 1, 6);
        due("lapse 1234 5;", 1, 11);
        good("back 9999;");
        due("back 99999;", 1, 5);
        due("back 1 + 12345;", 1, 9);
        due("proof if 12345 < 1;", 1, 9);
        due("proof if 1 < 12345;", 1, 13);
    }

    private static void promise4LongestSigns() {
        good("proof if 1==1 and 1!=2 and 1<2 and 1<=2;");
        due("proof if 1<==2;", 1, 12);
        due("proof if 1===2;", 1, 12);
        due("proof if 1!==2;", 1, 12);
        due("proof if 1<<2;", 1, 11);
        due("proof if 1< =2;", 1, 12);
        due("proof if 1= =2;", 1, 10);
        due("proof if 1=2;", 1, 10);
        due("proof if 1! =2;", 1, 10);
        due("proof if 1!2;", 1, 10);
        due("proof if 1=", 1, 10);
        due("proof if 1!", 1, 10);
        due("proof if 1=<2;", 1, 10);
        due("proof if 1>2;", 1, 10);
        due("proof if 1>=2;", 1, 10);
        due("proof if 1.", 1, 10);
        due("back 1/2;", 1, 6);
        due("back 1=;", 1, 6);
    }

    /** Behind the words of a text: those that go on, and all others are a fault at their own place. */
    private static void goesOn(String text, String ones) {
        for (String token : ALL) {
            String longer = text + " " + token;
            boolean fits = (" " + ones).contains(" " + token + " ");
            boolean whole = fits && token.equals(";");
            due(longer, whole ? 0 : 1, whole ? -1 : fits ? longer.length() : text.length() + 1);
        }
        due(text + " #", 1, text.length() + 1);
        due(text + " other", 1, text.length() + 1);
    }

    private static void promise4WhatATextGoesOnWith() {
        goesOn("", RULES);
        goesOn("lapse 1;", RULES);
        goesOn("back 1 if 1 < 2 ;", RULES);
        for (String sort : new String[] {"proof", "bar", "over"}) {
            goesOn(sort, "if ");
            goesOn(sort + " if", UNITS);
            goesOn(sort + " if 1 < 2", SUMS + "and or ; ");
        }
        goesOn("lapse", "7 ");
        goesOn("lapse 1", "; ");
        goesOn("back", UNITS);
        goesOn("back why", SUMS + "if ; ");
        goesOn("back 1 if", UNITS);
        goesOn("back 1 if 1", SUMS + RELATIONS);
        goesOn("back 1 if 1 < 2", SUMS + "and or ; ");
        goesOn("back (", UNITS);
        goesOn("back (1", SUMS + ") ");
        goesOn("back (1)", SUMS + "if ; ");
        goesOn("back ((1)", SUMS + ") ");
        goesOn("proof if yes", SUMS + RELATIONS);
        goesOn("proof if (yes", SUMS + ") ");
        goesOn("proof if (yes)", SUMS + RELATIONS);
        goesOn("proof if 1 <", UNITS);
        goesOn("proof if 1 < (2", SUMS + ") ");
        goesOn("proof if 1 < (2)", SUMS + "and or ; ");
        goesOn("proof if 1 < 2 and", UNITS);
        goesOn("proof if 1 < 2 or", UNITS);
        goesOn("proof if 1 < 2 and 3", SUMS + RELATIONS);
        goesOn("proof if 1 < 2 or 3", SUMS + RELATIONS);
        goesOn("proof if 1 < 2 or 3 == 4", SUMS + "and or ; ");
        goesOn("proof if 1 +", UNITS);
        goesOn("proof if 1 -", UNITS);
        goesOn("proof if 1 *", UNITS);
    }

    private static void promise4TextsEnd() {
        String whole = "back (1) * 2 if 3 <= why and 4 != 5 or 6 < 7";
        for (int length = 1; length <= whole.length(); length++) {
            String part = whole.substring(0, length);
            // Half a word, or a ! without its =, is a fault where it begins.
            String last = part.substring(part.lastIndexOf(' ') + 1);
            boolean cut = "b ba bac i w wh a an o !".contains(last) && !last.isEmpty();
            due(part, 1, cut ? length - last.length() : length);
        }
        due("lapse 1; back" + Check.times(1987, " "), 1, 2000);
        due("lapse 1 \n\r\t ", 1, 12);
    }

    private static void promise4Room400Tokens() {
        // "lapse 1;" and "back 1;" have three TOKENS each, a "+1" has two: 400 in all.
        String full = "lapse 1;back 1" + Check.times(197, "+1") + ";";
        int end = full.length();
        good(full);
        good(full + Check.times(2000 - end, " "));
        for (String sort : RULES.split(" ")) {
            due(full + sort, 2, end);
            due(full + " " + sort + " #", 2, end + 1);
        }
        String open = "back 1" + Check.times(199, "+1");
        due(open, 1, open.length());
        due(open + ";", 2, open.length());
        due(open + "  if", 2, open.length() + 2);
        due(open + "*", 2, open.length());
        due("lapse 1;back 1" + Check.times(198, "+1") + ";", 2, end);
    }

    private static void promise4Room16Rules() {
        String fifteen = Check.times(15, "lapse 1;");
        good(fifteen);
        for (String rule : new String[] {"proof if 1 < 2;", "bar if 1 < 2;", "over if 1 < 2;", "lapse 1;", "back 1;"}) {
            String sixteen = fifteen + rule;
            good(sixteen);
            good(sixteen + "   ");
            due(sixteen + rule, 2, sixteen.length());
            due(sixteen + "  " + rule.split(" ")[0], 2, sixteen.length() + 2);
        }
    }

    private static void promise4Room6Parentheses() {
        good("back ((((((1))))));");
        due("back (((((((1)))))));", 2, 11);
        due("back ((((((1+(2))))))) ;", 2, 13);
        due("back ( ( ( ( ( (  (", 2, 18);
        good("back ((((((1))))))+((((((2)))))) if ((((((3)))))) < ((((((4))))));");
        good("back " + Check.times(20, "(1)+") + "1;");
        good("back (((((" + Check.times(20, "(1)+") + "1)))));");
        for (String sort : new String[] {"proof", "bar", "over"}) {
            good(sort + " if ((((((1)))))) < ((((((2))))));");
            due(sort + " if (((((((1))))))) < 2;", 2, sort.length() + 10);
            due(sort + " if 1<(((((((1))))))) ;", 2, sort.length() + 12);
        }
        good("back ((((((1)))))); back ((((((1))))));");
        due("back ((((((1)))))); back (((((((1)))))));", 2, 31);
    }

    private static void promise4FirstFaultByItsPlace() {
        String seventeen = Check.times(17, "lapse 1;");
        due("# (((((((", 1, 0);
        due("back (((((((#", 2, 11);
        due("back ((((((#(", 1, 11);
        due(seventeen + "#", 2, 128);
        due("lapse 1 1;" + seventeen, 1, 8);
        due("back " + Check.times(401, "1+"), 2, 5 + 399);
        due("back 1+#" + Check.times(401, "1+"), 1, 7);
        due("back (((((((" + Check.times(401, "1+"), 2, 11);
    }

    private static void promise4OfOnePlaceTheLeast() {
        String full = "lapse 1;back 1" + Check.times(197, "+1") + ";";
        String sixteen = Check.times(16, "lapse 1;");
        for (String wrong : new String[] {";", "yes", "1", "(", ")", "+", "==", "if", "and", "#", "other", "=", "12345", "otherwise"}) {
            due(full + " " + wrong, 1, full.length() + 1);
            due(sixteen + " " + wrong, 1, 129);
        }
        due("back ((((((1(", 1, 12);
        due("lapse (((((((", 1, 6);
        // The 401st TOKEN is the first of a 17th RULE: both are ROOM.
        String both = Check.times(15, "lapse 1;") + "back 1" + Check.times(176, "+1") + ";";
        good(both);
        due(both + "lapse 1;", 2, both.length());
    }

    private static void promise5NoneWithout() {
        PromiseCourt court = new PromiseCourt();
        CHECK.due("promise 5: no read yet", court.place(), -1);
        Check.read(court, "", 0, 0);
        CHECK.due("promise 5: a read without a fault", court.place(), -1);
        Check.read(court, "lapse #", 0, 0);
        CHECK.due("promise 5: a fault", court.place(), 6);
        CHECK.due("promise 5: asked again", court.place(), 6);
        Check.read(court, "", 0, 0);
        CHECK.due("promise 5: the latest has none", court.place(), -1);
    }

    private static void promise5FirstAndLastByte() {
        due("#", 1, 0);
        due(" #", 1, 1);
        due(Check.times(1999, " ") + "#", 1, 1999);
        due(Check.times(1995, " ") + "proof", 1, 2000);
        due("proof", 1, 5);
    }

    private static void promise5StaysBehindARefusedRead() {
        PromiseCourt court = new PromiseCourt();
        Check.read(court, "lapse #", 0, 0);
        int[][] refused = {{-1, 0}, {4, 0}, {0, -1}, {0, 10000}};
        for (int[] read : refused) {
            CHECK.due("promise 5: a refused read", court.read(read[0], read[1]), -1);
            CHECK.due("promise 5: the place of the read ahead of it", court.place(), 6);
        }
        PromiseCourt eight = new PromiseCourt();
        for (int i = 0; i < 8; i++) {
            eight.read(0, 0);
        }
        Check.feed(eight, "#");
        CHECK.due("promise 5: a ninth read", eight.read(0, 0), -1);
        CHECK.due("promise 5: the eighth had no fault", eight.place(), -1);
    }
}
