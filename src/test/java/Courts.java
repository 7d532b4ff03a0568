/** Courts that several tests begin with. */
final class Courts {
    static final String ALL_PROVED = "proof if 1 == 1;";
    static final String ALL_OVER = "over if 1 == 1;";

    private Courts() { }

    /** Some of everything, so that promises come to many ends, and a law that is still on the tape. */
    static PromiseCourt told() {
        PromiseCourt court = new PromiseCourt();
        Check.strangers(court, 2);
        court.person(0, 1, 1000);
        court.person(-1, -1, 2000);
        court.person(2, -1, 3000);
        Check.read(court, "proof if 0 < yes; bar if degree < 3 and leave == 0; over if tense == 1; lapse 700;"
            + "back 50 if why == 7; back days if why == 8; back 25;", 0, 0);
        court.promise(0, 3, 0, 3500, 0, -1);
        court.promise(3, 1, 0, 4000, 1, 2);
        court.promise(2, 0, 0, 4500, 0, -1);
        court.promise(4, 2, 0, 5000, 0, 1);
        court.gift(0, 0, 200);
        court.gift(1, 1, 90);
        court.gift(2, 0, 7);
        court.gift(3, 1, 1000);
        for (int p = 0; p < 4; p++) {
            court.says(100 + p, p, true);
        }
        court.comes(2, 4200, true);
        court.fate(0, 1, 6000);
        court.leave(2, 0, 10);
        court.fate(2, 2, 8000);
        court.fame(1);
        Check.feed(court, "lapse 12;");
        return court;
    }

    /** All rows full: 12 persons, 10 promises (of 2p and 2p + 1, twice over), 20 gifts, 8 laws, 200 facts. */
    static PromiseCourt full() {
        PromiseCourt court = fullButFacts();
        for (int f = 0; f < 189; f++) {
            court.says(100 + f % 20, f % 9, true);
        }
        for (int p = 0; p < 10; p++) {
            court.says(119, p, true);
        }
        court.fate(0, 8, 500);
        return court;
    }

    static PromiseCourt fullButFacts() {
        PromiseCourt court = new PromiseCourt();
        Check.strangers(court, 12);
        for (int i = 0; i < 8; i++) {
            Check.read(court, "proof if 0 < yes; back 10;", i % 4, i);
        }
        for (int p = 0; p < 10; p++) {
            court.promise(2 * (p % 5), 2 * (p % 5) + 1, p % 4, 100 + p, 0, -1);
        }
        for (int g = 0; g < 20; g++) {
            court.gift(g % 10, g / 10, 100 + g);
        }
        return court;
    }

    /** All but the last of each row, and a text on the tape. */
    static PromiseCourt nearlyFull() {
        PromiseCourt court = new PromiseCourt();
        Check.strangers(court, 11);
        for (int i = 0; i < 7; i++) {
            Check.read(court, "proof if 0 < yes; back 10;", i % 4, i);
        }
        for (int p = 0; p < 9; p++) {
            court.promise(p, p + 1, p % 4, 100 + p, 0, -1);
        }
        for (int g = 0; g < 19; g++) {
            court.gift(g % 9, g % 2, 100 + g);
        }
        for (int f = 0; f < 199; f++) {
            court.says(100 + f % 20, f % 9, true);
        }
        Check.feed(court, "lapse 1;");
        return court;
    }
}
