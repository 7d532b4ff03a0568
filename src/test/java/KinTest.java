/** Promises 14 and 15: degrees over trees with gaps. */
public final class KinTest {
    private static final Check CHECK = new Check();

    public static void main(String[] args) {
        degrees();
        longLine();
        fewestSteps();
        gaps();
        CHECK.finish();
    }

    private static void degrees() {
        PromiseCourt court = new PromiseCourt();
        Check.strangers(court, 2);
        court.person(0, 1, 100);
        court.person(0, -1, 100);
        court.person(2, -1, 200);
        court.person(-1, 3, 200);
        court.person(-1, 5, 300);
        CHECK.due("oneself", court.degree(4, 4), 0);
        CHECK.due("a father", court.degree(2, 0), 1);
        CHECK.due("a mother", court.degree(1, 2), 1);
        CHECK.due("half siblings", court.degree(2, 3), 1);
        CHECK.due("a stepmother", court.degree(1, 3), 99);
        CHECK.due("an uncle", court.degree(4, 3), 2);
        CHECK.due("cousins", court.degree(4, 5), 2);
        CHECK.due("a cousin's child", court.degree(4, 6), 3);
        CHECK.due("a forebear", court.degree(0, 6), 3);
        CHECK.due("strangers", court.degree(0, 1), 99);
        CHECK.due("one -1", court.degree(-1, 0), -1);
        CHECK.due("other -1", court.degree(0, -1), -1);
        CHECK.due("one 7", court.degree(7, 0), -1);
        CHECK.due("other 7", court.degree(0, 7), -1);
        CHECK.due("nobody and nobody", court.degree(-1, -1), -1);
        CHECK.due("stranger 100", court.degree(100, 100), -1);
    }

    private static void longLine() {
        PromiseCourt court = new PromiseCourt();
        court.person(-1, -1, 0);
        for (int i = 1; i < 12; i++) {
            court.person(i % 2 == 0 ? i - 1 : -1, i % 2 == 0 ? -1 : i - 1, i);
        }
        for (int i = 0; i < 12; i++) {
            CHECK.due("steps of " + i, court.degree(i, 0), i);
        }
    }

    /** 0 is the father's father of 3 and, nearer, its mother's husband: the fewest steps count. */
    private static void fewestSteps() {
        PromiseCourt court = new PromiseCourt();
        Check.strangers(court, 2);
        court.person(0, 1, 10);
        court.person(0, 2, 20);
        CHECK.due("a father who is a grandfather too", court.degree(3, 0), 1);
        court.person(3, -1, 30);
        court.person(2, -1, 30);
        // 4 has 0 at two steps by 3, and 2 at two; 5 has 2 at one step.
        CHECK.due("the least of the greater of both", court.degree(4, 5), 2);
        CHECK.due("a niece and her aunt", court.degree(5, 3), 1);
    }

    private static void gaps() {
        PromiseCourt court = new PromiseCourt();
        Check.strangers(court, 8);
        for (int i = 0; i < 8; i += 2) {
            court.person(i, i + 1, 10);
        }
        CHECK.due("nobody known", court.gaps(0), 14);
        CHECK.due("both parents", court.gaps(8), 12);
        PromiseCourt deep = new PromiseCourt();
        Check.strangers(deep, 2);
        deep.person(0, 1, 1);
        deep.person(0, 1, 1);
        deep.person(2, 3, 2);
        deep.person(2, 3, 2);
        deep.person(4, 5, 3);
        deep.person(6, -1, 4);
        CHECK.due("both and four", deep.gaps(4), 8);
        CHECK.due("all of fourteen, some twice", deep.gaps(6), 0);
        CHECK.due("a father's line, no fourth rank", deep.gaps(7), 7);
        PromiseCourt lines = new PromiseCourt();
        lines.person(-1, -1, 0);
        for (int i = 1; i < 5; i++) {
            lines.person(i - 1, -1, i);
        }
        for (int i = 5; i < 9; i++) {
            lines.person(-1, i == 5 ? 0 : i - 1, i);
        }
        lines.person(2, 6, 20);
        CHECK.due("fathers alone", lines.gaps(4), 11);
        CHECK.due("two fathers alone", lines.gaps(2), 12);
        CHECK.due("mothers alone", lines.gaps(8), 11);
        CHECK.due("two mothers alone", lines.gaps(6), 12);
        CHECK.due("a line on each side", lines.gaps(9), 8);
        CHECK.due("nobody -1", deep.gaps(-1), -1);
        CHECK.due("nobody 8", deep.gaps(8), -1);
        CHECK.due("nobody greatest", deep.gaps(Integer.MAX_VALUE), -1);
    }
}
