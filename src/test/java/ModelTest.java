import java.util.Arrays;

/** Holds the class against the model over runs of calls that a fixed row of numbers chooses. */
public final class ModelTest {
    private static final String[] TEXTS = {
        "proof if 0 < yes; proof if 0 < kin and no == 0; proof if 1 < fame; bar if degree <= 4 and leave == 0; "
            + "over if old == 0 and tense == 1; over if 900 < days; lapse 300; back 100 if why == 10; "
            + "back days if why == 8; back 50 - tense * 20 if why == 7 or why == 11; back 33;",
        "proof if no < yes + kin * 2 + fame; bar if 1 < vow; bar if age < 3 and tense == 1; over if days <= 2000 ; "
            + "lapse 0; lapse 9; back (why - 5) * (days + 7) - 3;",
        "bar if vow + (leave) == 1; proof if tense == 1 or yes != 0 and no != 1; lapse 9999; over if 1 == 1; "
            + "back 100 if why < 7; back 0 - 5 if tense == 0; back why * 9;",
        "proof if 0 == 0; back 9999 * 9999 * 9999;",
        "proof if 0 <= 0; over if tense < old; back why;lapse 40;bar if degree < 2;",
        "over if yes == 0 and kin == 0 and why == 0 and days == 0; proof if age + degree + vow + leave + old == 0; back 7;",
    };
    private static final String[] PIECES = {
        "proof", "bar", "over", "if", "lapse", "back", "and", "or", "yes", "why", "tense", "degree", "degrees", "x",
        "0", "9999", "12345", "7", ";", ";", "+", "-", "*", "==", "=", "!=", "!", "<", "<=", "(", ")", " ", "\t", "\n",
        "#", "A", "\u00e9", "\u0000", "((((((", "((((((("
    };
    private static final int LIFE = 512;
    private final Check check = new Check();
    private PromiseCourt court;
    private Model model;
    private long seed;
    private int run;
    // Those that the court has heard; what it answers behind the 512th is free.
    private int calls;

    private ModelTest(long seed) {
        this.seed = seed;
    }

    public static void main(String[] args) {
        int runs = args.length > 0 ? Integer.parseInt(args[0]) : 25;
        ModelTest test = new ModelTest(args.length > 1 ? Long.parseLong(args[1]) : 12345);
        for (int run = 0; run < runs; run++) {
            test.texts(run);
            test.life(run);
        }
        test.check.finish();
    }

    private int upTo(int bound) {
        seed = seed * 6364136223846793005L + 1442695040888963407L;
        return (int) ((seed >>> 33) % bound);
    }

    /** Mostly from the low one on; now and then one outside or an extreme. */
    private int about(int low, int many) {
        int[] odd = {Integer.MIN_VALUE, Integer.MAX_VALUE, low - 1, low + many, -1, -2};
        return upTo(25) == 0 ? odd[upTo(odd.length)] : low + (many > 0 ? upTo(many) : 0);
    }

    private int day() {
        int[] edges = {0, 1, 9998, 9999, 10000, -1};
        int kind = upTo(20);
        return kind == 0 ? edges[upTo(edges.length)] : kind < 12 ? 10 * upTo(60) + 3000 : upTo(10000);
    }

    private int known() {
        return upTo(2) == 0 ? model.facts.size() : about(0, model.facts.size() + 1);
    }

    private String loose(String text) {
        StringBuilder made = new StringBuilder(text);
        for (int i = upTo(3); i > 0; i--) {
            int at = upTo(made.length() + 1);
            int end = Math.min(made.length(), at + upTo(4));
            made.replace(at, end, upTo(3) == 0 ? "" : PIECES[upTo(PIECES.length)]);
        }
        return made.toString();
    }

    private String expression(int depth) {
        StringBuilder made = new StringBuilder();
        for (int i = upTo(3); i >= 0; i--) {
            int kind = upTo(depth < 6 ? 4 : 3);
            made.append(kind == 3 ? "(" + expression(depth + 1) + ")"
                : kind == 2 ? "" + upTo(40) : Model.Parser.VARS.get(upTo(12)));
            made.append(i > 0 ? new String[] {"+", " - ", "*"}[upTo(3)] : "");
        }
        return made.toString();
    }

    private String condition() {
        StringBuilder made = new StringBuilder();
        for (int i = upTo(3); i >= 0; i--) {
            made.append(expression(0)).append(new String[] {"==", "!=", "<", "<="}[upTo(4)]).append(expression(0));
            made.append(i > 0 ? new String[] {" and ", " or "}[upTo(2)] : "");
        }
        return made.toString();
    }

    private String made() {
        StringBuilder made = new StringBuilder();
        for (int i = upTo(18); i > 0 && made.length() < 1500; i--) {
            String sort = new String[] {"proof", "bar", "over", "lapse", "back"}[upTo(5)];
            made.append(sort);
            if (sort.equals("lapse")) {
                made.append(' ').append(upTo(2) == 0 ? upTo(10) : upTo(1000));
            } else if (sort.equals("back")) {
                made.append(' ').append(expression(0)).append(upTo(2) == 0 ? " if " + condition() : "");
            } else {
                made.append(" if ").append(condition());
            }
            made.append(upTo(2) == 0 ? ";" : " ;\r\n");
        }
        return made.toString();
    }

    private void readBoth(String text) {
        String fed = text.length() > 2000 ? text.substring(0, 2000) : text;
        int feeds = (fed.length() + 19) / 20;
        if (calls + feeds + 5 > LIFE) {
            return;
        }
        court.back(model.tape.length());
        Check.feed(court, fed);
        calls += feeds + 2;
        model.tape = fed;
        int place = about(0, 2);
        int day = upTo(4) == 0 ? day() : 1000 * upTo(4);
        due("read(" + place + ", " + day + ") of " + fed, court.read(place, day), model.read(place, day));
        due("place() of " + fed, court.place(), model.faultPlace);
        due("count(5)", court.count(5), model.count(5));
    }

    private void due(String call, int got, int want) {
        calls++;
        check.due("run " + run + ": " + call, got, want);
    }

    private void renew(int run) {
        this.run = run;
        calls = 0;
        court = new PromiseCourt();
        model = new Model();
    }

    /** Many texts, most of them with faults. */
    private void texts(int run) {
        for (int i = 0; i < 60; i++) {
            if (i % 10 == 0) {
                renew(run);
            }
            readBoth(loose(upTo(2) == 0 ? made() : TEXTS[upTo(TEXTS.length)]));
        }
    }

    private void life(int run) {
        renew(run);
        for (int i = 6 + upTo(12); i > 0; i--) {
            tellPerson();
        }
        for (int i = 2 + upTo(3); i > 0; i--) {
            readBoth(upTo(6) == 0 ? made() : TEXTS[upTo(TEXTS.length)]);
        }
        for (int i = 6 + upTo(5); i > 0; i--) {
            tellPromise();
        }
        while (calls < LIFE) {
            int kind = upTo(100);
            if (kind < 4) {
                tellPromise();
            } else if (kind < 5) {
                readBoth(upTo(2) == 0 ? made() : loose(TEXTS[upTo(TEXTS.length)]));
            } else if (kind < 10) {
                tellGift();
            } else if (kind < 50) {
                tellFact(upTo(9));
            } else {
                ask(upTo(12));
            }
        }
    }

    private void tellPerson() {
        int size = model.persons.size();
        int father = size < 3 || upTo(3) == 0 ? -1 : about(0, size);
        int mother = size < 3 || upTo(3) == 0 ? -1 : about(0, size);
        int birth = upTo(5) == 0 ? day() : 250 * size + upTo(300);
        due("person(" + father + ", " + mother + ", " + birth + ")", court.person(father, mother, birth),
            model.person(father, mother, birth));
    }

    private void tellPromise() {
        // Few persons, so that many promises are rivals.
        int few = Math.min(5, model.persons.size());
        int[] a = {about(0, few), about(0, few), about(0, 2), day(), about(0, 2), upTo(3) < 2 ? -1 : about(0, 6)};
        due("promise" + Arrays.toString(a), court.promise(a[0], a[1], a[2], a[3], a[4], a[5]),
            model.promise(a[0], a[1], a[2], a[3], a[4], a[5]));
    }

    private void tellGift() {
        int[] a = {about(0, model.promises.size()), about(0, 2), about(1, 1000)};
        due("gift" + Arrays.toString(a), court.gift(a[0], a[1], a[2]), model.gift(a[0], a[1], a[2]));
    }

    private void tellFact(int kind) {
        int size = model.persons.size();
        int promise = about(0, model.promises.size());
        int witness = upTo(2) == 0 ? about(0, size) : about(100, 20);
        int person = about(0, size);
        int other = about(0, size);
        int day = day();
        boolean yes = upTo(3) > 0;
        int fate = upTo(8) == 0 ? about(0, 4) : upTo(6) == 0 ? upTo(2) : 2 + upTo(2);
        if (kind < 4) {
            due("says(" + witness + ", " + promise + ", " + yes + ")", court.says(witness, promise, yes),
                model.says(witness, promise, yes));
        } else if (kind == 4) {
            due("fame(" + promise + ")", court.fame(promise), model.fame(promise));
        } else if (kind == 5) {
            int condition = about(0, 6);
            due("comes(" + condition + ", " + day + ", " + yes + ")", court.comes(condition, day, yes),
                model.comes(condition, day, yes));
        } else if (kind < 8) {
            due("fate(" + fate + ", " + person + ", " + day + ")", court.fate(fate, person, day),
                model.fate(fate, person, day));
        } else {
            due("leave(" + person + ", " + other + ", " + day + ")", court.leave(person, other, day),
                model.leave(person, other, day));
        }
    }

    private void ask(int kind) {
        int person = about(0, model.persons.size());
        int other = about(0, model.persons.size());
        int promise = about(0, model.promises.size());
        int gift = about(0, model.gifts.size());
        int day = day();
        int n = known();
        int m = known();
        int what = about(0, 6);
        String of = " of promise " + promise + ", persons " + person + ", " + other + ", gift " + gift + ", day " + day
            + ", n " + n + ", m " + m + ", what " + what;
        switch (kind) {
            case 0 -> due("degree" + of, court.degree(person, other), model.degree(person, other));
            case 1 -> due("gaps" + of, court.gaps(person), model.gaps(person));
            case 2 -> due("law" + of, court.law(promise), model.law(promise));
            case 3 -> due("proved" + of, court.proved(promise, n), model.proved(promise, n));
            case 4 -> due("barred" + of, court.barred(promise, n), model.barred(promise, n));
            case 5 -> due("state" + of, court.state(promise, day, n), model.state(promise, day, n));
            case 6 -> due("force" + of, court.force(promise, n, what), model.force(promise, n, what));
            case 7 -> due("bound" + of, court.bound(person, day, n), model.bound(person, day, n));
            case 8 -> due("goes" + of, court.goes(gift, day, n), model.goes(gift, day, n));
            case 9 -> due("owes" + of, court.owes(person, day, n), model.owes(person, day, n));
            case 10 -> due("changed" + of, court.changed(day, n, m), model.changed(day, n, m));
            default -> due("count" + of, court.count(what), model.count(what));
        }
    }
}
