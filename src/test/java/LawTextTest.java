/** Promises 4 and 5: TOKENS, RULES and where a text with a FAULT stops. */
public final class LawTextTest {
    private static final Check CHECK = new Check();

    public static void main(String[] args) {
        bytesInOrder();
        tokens();
        rules();
        goesOn();
        textEnds();
        bytesTakenBack();
        CHECK.finish();
    }

    /** What read() and place() answer to a text on a new object. */
    private static void due(String text, int fault, int place) {
        PromiseCourt court = new PromiseCourt();
        CHECK.due("read of '" + text + "'", Check.read(court, text, 0, 0), fault);
        CHECK.due("place of '" + text + "'", court.place(), place);
        CHECK.due("laws after '" + text + "'", court.count(4), fault == 0 ? 1 : 0);
        CHECK.due("tape after '" + text + "'", court.count(5), 0);
    }

    private static void good(String text) {
        due(text, 0, -1);
    }

    private static void bytesInOrder() {
        PromiseCourt court = new PromiseCourt();
        CHECK.due("feed", court.feed(0x6c617073, 0x65203132, 0x3b20ff20, 0x20202020, 0x20202020), 20);
        CHECK.due("a byte of 255", court.read(0, 0), 1);
        CHECK.due("its place", court.place(), 10);
        court.feed(0x6c617073, 0x65203132, 0x3b6c6170, 0x73652033, 0x343b3b3b);
        court.back(2);
        CHECK.due("two lapses", court.read(0, 0), 0);
        good(Check.times(124, " \t\n\r            ") + "lapse 1;" + Check.times(8, " "));
    }

    private static void tokens() {
        good("lapse 0;lapse0000;lapse9999;");
        good("lapse\t12\n\r;");
        due("lapse 12345;", 1, 6);
        due("lapse 00001;", 1, 6);
        due("lapse 1 2;", 1, 8);
        due("lapse 12a;", 1, 8);
        good("proof if 12<yes;bar if(1)!=2;");
        due("proofif 1 < 2;", 1, 0);
        due("proof ifyes < 2;", 1, 6);
        due("proof if abcdefgh < 2;", 1, 9);
        due("proof if abcdefghi < 2;", 1, 9);
        due("proof if yesyesyesyes < 2;", 1, 9);
        due("Proof if 1 < 2;", 1, 0);
        due("proofz if 1 < 2;", 1, 0);
        due("xroof if 1 < 2;", 1, 0);
        due("proo if 1 < 2;", 1, 0);
        due("proof if 1 = 2;", 1, 11);
        due("proof if 1 ! 2;", 1, 11);
        due("proof if 1 === 2;", 1, 13);
        due("proof if 1 < = 2;", 1, 13);
        due("proof if 1 <== 2;", 1, 13);
        due("proof if 1 =! 2;", 1, 11);
        due("proof if 1 > 2;", 1, 11);
        due("proof if 1 < 2,", 1, 14);
        due("lapse\u000b1;", 1, 5);
        due("lapse\u00001;", 1, 5);
        due("lapse\u00a01;", 1, 5);
        due("lapse -1;", 1, 6);
    }

    private static void rules() {
        good("");
        good(" \n");
        good("proof if yes == no; bar if kin != fame; over if tense < age; lapse 1; back degree; back vow if leave <= old;");
        good("proof if why + days * 2 - (3) < 4 and 1 == 1 or 2 == 2 and 3 != 4;");
        good("back 1 - 2 - 3 * (yes + (no)) if 1 < 2 or 3 < 4;");
        due(";", 1, 0);
        due("lapse 1;;", 1, 8);
        due("yes", 1, 0);
        due("1", 1, 0);
        due("proof 1 < 2;", 1, 6);
        due("bar;", 1, 3);
        due("over if;", 1, 7);
        due("lapse yes;", 1, 6);
        due("lapse (1);", 1, 6);
        due("lapse 1 + 1;", 1, 8);
        due("lapse 1 if 1 < 2;", 1, 8);
        due("back;", 1, 4);
        due("back if 1 < 2;", 1, 5);
        due("back 1 < 2;", 1, 7);
        due("back 1 and 2;", 1, 7);
        due("back 1 if 2;", 1, 11);
        due("back 1 if 1 < 2 if 1 < 2;", 1, 16);
        due("proof if yes;", 1, 12);
        due("proof if 1 < 2 if 1 < 2;", 1, 15);
    }

    private static void goesOn() {
        due("proof if 1 < 2 < 3;", 1, 15);
        due("proof if 1 and 2 < 3;", 1, 11);
        due("proof if 1 or 2 < 3;", 1, 11);
        due("proof if (1 < 2);", 1, 12);
        due("proof if (1 and 2);", 1, 12);
        due("proof if () < 2;", 1, 10);
        due("proof if (1;", 1, 11);
        due("proof if (1 if;", 1, 12);
        due("proof if 1) < 2;", 1, 10);
        due("proof if (1)) < 2;", 1, 12);
        due("proof if 1 (2) < 3;", 1, 11);
        due("proof if 1 2 < 3;", 1, 11);
        due("proof if yes no < 3;", 1, 13);
        due("proof if - 1 < 3;", 1, 9);
        due("proof if 1 + < 3;", 1, 13);
        due("proof if 1 * * 2 < 3;", 1, 13);
        due("proof if 1 < ;", 1, 13);
        due("proof if 1 < 2 and;", 1, 18);
        due("proof if 1 < 2 or or 1 < 2;", 1, 18);
        due("proof if and < 2;", 1, 9);
        due("proof if proof < 2;", 1, 9);
        due("back back;", 1, 5);
    }

    private static void textEnds() {
        due("proof", 1, 5);
        due("proof  ", 1, 7);
        due("proof if", 1, 8);
        due("proof if 1", 1, 10);
        due("proof if 1 <", 1, 12);
        due("proof if 1 < 2", 1, 14);
        due("proof if 1 < 2 or \n", 1, 19);
        due("lapse", 1, 5);
        due("lapse 1", 1, 7);
        due("back (1", 1, 7);
        due("back 1 if", 1, 9);
        due("lapse 1; back" + Check.times(1987, " "), 1, 2000);
    }

    /** Bytes that went from the tape are no part of a token at its end. */
    private static void bytesTakenBack() {
        String[] texts = {"back 1;", "lapse 12345", "proof if 1 <=", "proof if 1 =="};
        int[] gone = {5, 1, 1, 1};
        int[] places = {0, 10, 12, 11};
        for (int i = 0; i < texts.length; i++) {
            PromiseCourt court = new PromiseCourt();
            Check.feed(court, texts[i]);
            court.back(gone[i]);
            CHECK.due("the rest of " + texts[i], court.read(0, 0), 1);
            CHECK.due("place in the rest of " + texts[i], court.place(), places[i]);
        }
        due(Check.times(1996, " ") + "back", 1, 2000);
        due(Check.times(1991, " ") + "lapse 123", 1, 2000);
        due(Check.times(1988, " ") + "proof if 1 <", 1, 2000);
    }
}
