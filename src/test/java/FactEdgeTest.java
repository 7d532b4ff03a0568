/** Promises 9 to 13: a FACT of one kind is none of another, though all their numbers and DAYS are the same. */
public final class FactEdgeTest {
    private static final Check CHECK = new Check();
    private static final String[] KINDS =
        {"dies", "vows", "is absent", "returns", "leave", "met", "fails", "says yes", "says no", "fame"};

    public static void main(String[] args) {
        for (int kind = 0; kind < KINDS.length; kind++) {
            promises9To13OneKindAlone(kind);
            promise12NothingElseReturns(kind);
        }
        CHECK.finish();
    }

    /** 0 to 1 without a condition, 2 to 3 with condition 3, and 4 to 5 where only words and fame count. */
    private static PromiseCourt court() {
        PromiseCourt court = CHECK.court(6, Courts.ALL_PROVED + "bar if vow != 0; bar if leave != 0; lapse 10;");
        Check.read(court, "proof if yes != 0 and no + fame == 0; proof if no != 0 and yes + fame == 0;"
            + "proof if fame != 0 and yes + no == 0;", 1, 0);
        court.promise(0, 1, 0, 500, 0, -1);
        court.promise(2, 3, 0, 500, 0, 3);
        court.promise(4, 5, 1, 500, 0, -1);
        return court;
    }

    /** All that can be told of one kind on one day. */
    private static void tell(PromiseCourt court, int kind, int day) {
        for (int one = 0; one < 6; one++) {
            if (kind < 4) {
                court.fate(kind, one, day);
            } else if (kind == 5 || kind == 6) {
                court.comes(one, day, kind == 5);
            } else if (kind == 9) {
                court.fame(one);
            } else {
                tellOfPairs(court, kind, one, day);
            }
        }
    }

    private static void tellOfPairs(PromiseCourt court, int kind, int one, int day) {
        for (int other = 0; other < 6; other++) {
            if (kind == 4) {
                court.leave(one, other, day);
            } else {
                court.says(one, other, kind == 7);
            }
        }
    }

    private static void promises9To13OneKindAlone(int kind) {
        PromiseCourt court = court();
        tell(court, kind, 100);
        int facts = court.count(3);
        int[] bars = {-2, 1, -1, -1, 2, -1, -1, -1, -1, -1};
        int[] states = {4, 4, 8, 6, 4, 6, 6, 6, 6, 6};
        int[] withCondition = {2, 2, 2, 2, 2, 6, 3, 2, 2, 2};
        int[] proofs = {-1, -1, -1, -1, -1, -1, -1, 0, 1, 2};
        CHECK.due("promises 9 to 13: " + KINDS[kind] + ": barred", court.barred(0, facts), bars[kind]);
        CHECK.due("promises 9 to 13: " + KINDS[kind] + ": state", court.state(0, 500, facts), states[kind]);
        CHECK.due("promises 9 to 13: " + KINDS[kind] + ": with a condition", court.state(1, 500, facts), withCondition[kind]);
        CHECK.due("promises 9 to 13: " + KINDS[kind] + ": proved", court.proved(2, facts), proofs[kind]);
        String unknown = "promises 9 to 13: " + KINDS[kind] + ", as known by none: ";
        CHECK.due(unknown + "barred", court.barred(0, 0), -1);
        CHECK.due(unknown + "state", court.state(0, 500, 0), 6);
        CHECK.due(unknown + "with a condition", court.state(1, 500, 0), 2);
        CHECK.due(unknown + "proved", court.proved(2, 0), -1);
    }

    private static void promise12NothingElseReturns(int kind) {
        PromiseCourt court = court();
        court.fate(2, 0, 600);
        tell(court, kind, 605);
        int[] states = {7, 8, 8, 6, 8, 8, 8, 8, 8, 8};
        CHECK.due("promise 12: absent, and then " + KINDS[kind], court.state(0, 9999, court.count(3)), states[kind]);
        CHECK.due("promise 12: absent, ahead of " + KINDS[kind], court.state(0, 9999, 1), 8);
    }
}
