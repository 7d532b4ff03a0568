import java.util.ArrayList;
import java.util.HashMap;
import java.util.List;
import java.util.Map;

/**
 * A second, slow telling of the document, written another way: texts become trees, and the court
 * walks through its 10,000 days one by one. ModelTest holds the class against it.
 */
final class Model {
    static final class Fault extends RuntimeException {
        private static final long serialVersionUID = 1;
        final int number;
        final int place;

        Fault(int number, int place) {
            this.number = number;
            this.place = place;
        }
    }

    interface Expr {
        int value(Map<String, Integer> vars);
    }

    interface Cond {
        boolean holds(Map<String, Integer> vars);
    }

    static final class Rule {
        String sort;
        Cond cond;
        Expr share;
        int lapse;
    }

    record Token(String text, int at) { }

    /** A parser by descent, which throws the first FAULT it comes to. */
    static final class Parser {
        static final List<String> VARS =
                List.of("yes", "no", "kin", "fame", "tense", "age", "degree", "vow", "leave", "old", "why", "days");
        final String text;
        int next = 0;
        int taken = 0;
        Token token;

        Parser(String text) {
            this.text = text;
            token = lex();
        }

        Token lex() {
            while (next < text.length() && "\t\n\r ".indexOf(text.charAt(next)) >= 0) {
                next++;
            }
            int at = next;
            if (at == text.length()) {
                return new Token("", at);
            }
            String rest = text.substring(at);
            String found = "?";
            java.util.regex.Matcher m =
                    java.util.regex.Pattern.compile("[a-z]+|[0-9]+|==|!=|<=|[;+*<()-]").matcher(rest);
            if (m.lookingAt()) {
                found = m.group();
                next += found.length();
                if (found.matches("[a-z]{9,}|[0-9]{5,}")) {
                    found = "?";
                }
            }
            return new Token(found, at);
        }

        boolean sees(String... ones) {
            for (String one : ones) {
                if (token.text.equals(one)) {
                    return true;
                }
            }
            return false;
        }

        /** The caller has seen that the token fits; so only ROOM can be lacking. */
        String take() {
            taken++;
            if (taken > 400) {
                throw new Fault(2, token.at);
            }
            String took = token.text;
            token = lex();
            return took;
        }

        void need(String one) {
            if (!sees(one)) {
                throw new Fault(1, token.at);
            }
            take();
        }

        List<Rule> rules() {
            List<Rule> rules = new ArrayList<>();
            while (!sees("")) {
                if (!sees("proof", "bar", "over", "lapse", "back")) {
                    throw new Fault(1, token.at);
                }
                if (rules.size() == 16) {
                    throw new Fault(2, token.at);
                }
                rules.add(rule());
            }
            return rules;
        }

        Rule rule() {
            Rule rule = new Rule();
            rule.sort = take();
            if (rule.sort.equals("lapse")) {
                if (!token.text.matches("[0-9]{1,4}")) {
                    throw new Fault(1, token.at);
                }
                rule.lapse = Integer.parseInt(take());
            } else if (rule.sort.equals("back")) {
                rule.share = sum(0);
                if (sees("if")) {
                    take();
                    rule.cond = cond();
                }
            } else {
                need("if");
                rule.cond = cond();
            }
            need(";");
            return rule;
        }

        Cond cond() {
            Cond left = all();
            while (sees("or")) {
                take();
                Cond before = left;
                Cond right = all();
                left = vars -> before.holds(vars) | right.holds(vars);
            }
            return left;
        }

        Cond all() {
            Cond left = relation();
            while (sees("and")) {
                take();
                Cond before = left;
                Cond right = relation();
                left = vars -> before.holds(vars) & right.holds(vars);
            }
            return left;
        }

        Cond relation() {
            Expr left = sum(0);
            if (!sees("==", "!=", "<", "<=")) {
                throw new Fault(1, token.at);
            }
            String sign = take();
            Expr right = sum(0);
            return vars -> {
                int a = left.value(vars);
                int b = right.value(vars);
                return sign.equals("==") ? a == b : sign.equals("!=") ? a != b : sign.equals("<") ? a < b : a <= b;
            };
        }

        Expr sum(int depth) {
            Expr left = product(depth);
            while (sees("+", "-")) {
                boolean plus = take().equals("+");
                Expr before = left;
                Expr right = product(depth);
                left = vars -> plus ? before.value(vars) + right.value(vars) : before.value(vars) - right.value(vars);
            }
            return left;
        }

        Expr product(int depth) {
            Expr left = unit(depth);
            while (sees("*")) {
                take();
                Expr before = left;
                Expr right = unit(depth);
                left = vars -> before.value(vars) * right.value(vars);
            }
            return left;
        }

        Expr unit(int depth) {
            if (sees("(")) {
                if (depth == 6) {
                    throw new Fault(2, token.at);
                }
                take();
                Expr inner = sum(depth + 1);
                need(")");
                return inner;
            }
            String text = token.text;
            if (text.matches("[0-9]{1,4}")) {
                take();
                return vars -> Integer.parseInt(text);
            }
            if (!VARS.contains(text)) {
                throw new Fault(1, token.at);
            }
            take();
            return vars -> vars.getOrDefault(text, 0);
        }
    }

    record Law(int place, int day, List<Rule> rules) { }

    record Person(int father, int mother, int birth) { }

    record Promise(int first, int second, int place, int day, int tense, int condition) {
        boolean has(int person) {
            return first == person || second == person;
        }
    }

    record Gift(int promise, int giver, int value) { }

    record Fact(String sort, int a, int b, int day) { }

    /** What became of one promise. */
    static final class Fate {
        int proof = -1;
        int effect = Integer.MAX_VALUE;
        boolean fails = false;
        boolean judged = false;
        int bar = -1;
        int rival = -1;
        boolean taken = false;
        int end = Integer.MAX_VALUE;
        int endBy = 0;
        int ender = -1;
        int broken = 0;
    }

    String tape = "";
    int faultPlace = -1;
    final List<Law> laws = new ArrayList<>();
    final List<Person> persons = new ArrayList<>();
    final List<Promise> promises = new ArrayList<>();
    final List<Gift> gifts = new ArrayList<>();
    final List<Fact> facts = new ArrayList<>();
    // Kept only to save time, and forgotten with each new law and promise.
    final Map<Integer, List<Fate>> heard = new HashMap<>();
    final Map<Integer, List<Rule>> rulesFound = new HashMap<>();

    int feed(int a, int b, int c, int d, int e) {
        if (tape.length() > 1980) {
            return -1;
        }
        for (int word : new int[] {a, b, c, d, e}) {
            for (int i = 0; i < 4; i++) {
                tape += (char) (word >>> (24 - 8 * i) & 255);
            }
        }
        return tape.length();
    }

    int back(int n) {
        if (n < 0 || n > tape.length()) {
            return -1;
        }
        tape = tape.substring(0, tape.length() - n);
        return tape.length();
    }

    int read(int place, int day) {
        if (place < 0 || place > 3 || !isDay(day) || laws.size() == 8) {
            return -1;
        }
        heard.clear();
        rulesFound.clear();
        String text = tape;
        tape = "";
        faultPlace = -1;
        try {
            laws.add(new Law(place, day, new Parser(text).rules()));
            return 0;
        } catch (Fault fault) {
            faultPlace = fault.place;
            return fault.number;
        }
    }

    int person(int father, int mother, int birth) {
        if (persons.size() == 12 || !isDay(birth) || father == mother && father != -1) {
            return -1;
        }
        for (int parent : new int[] {father, mother}) {
            if (parent != -1 && (!isPerson(parent) || persons.get(parent).birth >= birth)) {
                return -1;
            }
        }
        persons.add(new Person(father, mother, birth));
        return persons.size() - 1;
    }

    int promise(int first, int second, int place, int day, int tense, int condition) {
        if (promises.size() == 10 || !isPerson(first) || !isPerson(second) || first == second || place < 0
                || place > 3 || !isDay(day) || tense < 0 || tense > 1 || condition < -1 || condition > 5) {
            return -1;
        }
        heard.clear();
        rulesFound.clear();
        promises.add(new Promise(first, second, place, day, tense, condition));
        return promises.size() - 1;
    }

    int gift(int promise, int giver, int value) {
        if (gifts.size() == 20 || !isPromise(promise) || giver < 0 || giver > 1 || value < 1 || value > 1000) {
            return -1;
        }
        gifts.add(new Gift(promise, giver, value));
        return gifts.size() - 1;
    }

    private int tell(boolean fits, String sort, int a, int b, int day) {
        if (!fits || facts.size() == 200) {
            return -1;
        }
        facts.add(new Fact(sort, a, b, day));
        return facts.size() - 1;
    }

    int says(int witness, int promise, boolean yes) {
        boolean fits = (isPerson(witness) || witness >= 100 && witness <= 119) && isPromise(promise)
                && !promises.get(promise).has(witness);
        return tell(fits, yes ? "yes" : "no", promise, witness, 0);
    }

    int fame(int promise) {
        return tell(isPromise(promise), "fame", promise, 0, 0);
    }

    int comes(int condition, int day, boolean met) {
        return tell(condition >= 0 && condition <= 5 && isDay(day), met ? "met" : "fails", condition, 0, day);
    }

    int fate(int kind, int person, int day) {
        boolean fits = kind >= 0 && kind <= 3 && isPerson(person) && isDay(day);
        return tell(fits, fits ? List.of("dies", "vows", "absent", "returns").get(kind) : "", person, 0, day);
    }

    int leave(int one, int other, int day) {
        boolean fits = isPerson(one) && isPerson(other) && one != other && isDay(day);
        return tell(fits, "leave", Math.min(one, other), Math.max(one, other), day);
    }

    /** All forebears of a person with the fewest steps, by walking up every line. */
    private void climb(int person, int steps, Map<Integer, Integer> found) {
        if (person != -1) {
            found.merge(person, steps, Math::min);
            climb(persons.get(person).father, steps + 1, found);
            climb(persons.get(person).mother, steps + 1, found);
        }
    }

    int degree(int one, int other) {
        if (!isPerson(one) || !isPerson(other)) {
            return -1;
        }
        Map<Integer, Integer> mine = new HashMap<>();
        Map<Integer, Integer> theirs = new HashMap<>();
        climb(one, 0, mine);
        climb(other, 0, theirs);
        int least = 99;
        for (int forebear : mine.keySet()) {
            if (theirs.containsKey(forebear)) {
                least = Math.min(least, Math.max(mine.get(forebear), theirs.get(forebear)));
            }
        }
        return least;
    }

    int gaps(int person) {
        return isPerson(person) ? 15 - knownAbove(person, 3) : -1;
    }

    private int knownAbove(int person, int levels) {
        if (person == -1) {
            return 0;
        }
        Person one = persons.get(person);
        return levels == 0 ? 1 : 1 + knownAbove(one.father, levels - 1) + knownAbove(one.mother, levels - 1);
    }

    int law(int promise) {
        if (!isPromise(promise)) {
            return -1;
        }
        Promise one = promises.get(promise);
        for (int since = one.day; since >= 0; since--) {
            for (int i = laws.size() - 1; i >= 0; i--) {
                if (laws.get(i).place == one.place && laws.get(i).day == since) {
                    return i;
                }
            }
        }
        return -1;
    }

    private List<Rule> rulesOf(int promise) {
        return rulesFound.computeIfAbsent(promise, p -> law(p) == -1 ? List.of() : laws.get(law(p)).rules);
    }

    private int firstHolding(int promise, String sort, Map<String, Integer> vars) {
        List<Rule> rules = rulesOf(promise);
        for (int i = 0; i < rules.size(); i++) {
            if (rules.get(i).sort.equals(sort) && rules.get(i).cond.holds(vars)) {
                return i;
            }
        }
        return -1;
    }

    private boolean told(int n, String sort, int a, int from, int to) {
        for (Fact fact : facts.subList(0, n)) {
            if (fact.sort.equals(sort) && fact.a == a && fact.day >= from && fact.day <= to) {
                return true;
            }
        }
        return false;
    }

    private int proof(int promise, int n) {
        Promise one = promises.get(promise);
        Map<Integer, Boolean> words = new HashMap<>();
        Map<String, Integer> vars = new HashMap<>();
        vars.put("tense", one.tense);
        for (Fact fact : facts.subList(0, n)) {
            if (fact.a == promise && (fact.sort.equals("yes") || fact.sort.equals("no"))) {
                words.put(fact.b, fact.sort.equals("yes"));
            }
            if (fact.a == promise && fact.sort.equals("fame")) {
                vars.merge("fame", 1, Integer::sum);
            }
        }
        for (int witness : words.keySet()) {
            boolean kin = witness < 100 && (degree(witness, one.first) <= 4 || degree(witness, one.second) <= 4);
            if (words.get(witness)) {
                vars.merge(kin ? "kin" : "yes", 1, Integer::sum);
            } else if (!kin) {
                vars.merge("no", 1, Integer::sum);
            }
        }
        return firstHolding(promise, "proof", vars);
    }

    private int bar(int promise, int effect, int n) {
        Promise one = promises.get(promise);
        if (told(n, "dies", one.first, 0, effect) || told(n, "dies", one.second, 0, effect)) {
            return -2;
        }
        Map<String, Integer> vars = new HashMap<>();
        vars.put("tense", one.tense);
        vars.put("degree", degree(one.first, one.second));
        for (int person : new int[] {one.first, one.second}) {
            if (told(n, "vows", person, 0, effect)) {
                vars.merge("vow", 1, Integer::sum);
            }
        }
        for (Fact fact : facts.subList(0, n)) {
            if (fact.sort.equals("leave") && one.has(fact.a) && one.has(fact.b) && fact.day <= effect) {
                vars.put("leave", 1);
            }
        }
        int years = 0;
        int birth = Math.max(persons.get(one.first).birth, persons.get(one.second).birth);
        while (birth + 365 * (years + 1) <= effect) {
            years++;
        }
        vars.put("age", years);
        return firstHolding(promise, "bar", vars);
    }

    /** Whether a person has on this day been away for so long as the promise's law bears. */
    private boolean lapses(int promise, int day, int n) {
        int bears = -1;
        for (Rule rule : rulesOf(promise)) {
            if (bears == -1 && rule.sort.equals("lapse")) {
                bears = rule.lapse;
            }
        }
        for (Fact fact : facts.subList(0, n)) {
            if (bears != -1 && fact.sort.equals("absent") && promises.get(promise).has(fact.a)
                    && day - fact.day >= bears && !told(n, "returns", fact.a, fact.day, day)) {
                return true;
            }
        }
        return false;
    }

    private List<Fate> hear(int n) {
        if (heard.containsKey(n)) {
            return heard.get(n);
        }
        List<Fate> fates = new ArrayList<>();
        for (int p = 0; p < promises.size(); p++) {
            fates.add(begin(p, n));
        }
        for (int day = 0; day <= 9999; day++) {
            for (int p = 0; p < fates.size(); p++) {
                endAlone(fates.get(p), p, day, n);
            }
            for (int p = 0; p < fates.size(); p++) {
                if (fates.get(p).judged && fates.get(p).effect == day) {
                    judge(fates, p, day, n);
                    endAlone(fates.get(p), p, day, n);
                }
            }
        }
        heard.put(n, fates);
        return fates;
    }

    private Fate begin(int p, int n) {
        Promise one = promises.get(p);
        Fate fate = new Fate();
        fate.proof = proof(p, n);
        if (one.condition == -1) {
            fate.effect = one.day;
        }
        for (int day = 0; day <= 9999 && fate.effect == Integer.MAX_VALUE; day++) {
            for (Fact fact : facts.subList(0, n)) {
                boolean decides = fact.sort.equals("met") || fact.sort.equals("fails");
                if (decides && fact.a == one.condition && fact.day == day) {
                    fate.effect = Math.max(day, one.day);
                    fate.fails = fact.sort.equals("fails");
                    break;
                }
            }
        }
        fate.judged = fate.proof != -1 && fate.effect != Integer.MAX_VALUE && !fate.fails;
        return fate;
    }

    private void endAlone(Fate fate, int p, int day, int n) {
        if (!fate.taken || fate.end != Integer.MAX_VALUE) {
            return;
        }
        Promise one = promises.get(p);
        boolean death = told(n, "dies", one.first, day, day) || told(n, "dies", one.second, day, day);
        if (death || lapses(p, day, n)) {
            fate.end = day;
            fate.endBy = death ? 7 : 8;
        }
    }

    private void judge(List<Fate> fates, int p, int day, int n) {
        Promise one = promises.get(p);
        Fate fate = fates.get(p);
        fate.bar = bar(p, day, n);
        if (fate.bar != -1) {
            return;
        }
        List<Integer> rivals = new ArrayList<>();
        for (int q = 0; q < fates.size(); q++) {
            Promise old = promises.get(q);
            if (fates.get(q).taken && fates.get(q).end > day && (old.has(one.first) || old.has(one.second))) {
                rivals.add(q);
            }
        }
        for (int q : rivals) {
            Promise old = promises.get(q);
            Map<String, Integer> vars = Map.of("old", old.tense, "tense", one.tense, "days", day - fates.get(q).effect);
            if (!(old.has(one.first) && old.has(one.second)) && firstHolding(p, "over", vars) == -1) {
                fate.rival = q;
                return;
            }
        }
        for (int q : rivals) {
            Promise old = promises.get(q);
            Fate ended = fates.get(q);
            ended.end = day;
            ended.endBy = 9;
            ended.ender = p;
            if (!(old.has(one.first) && old.has(one.second))) {
                ended.broken = one.has(old.first) ? 1 : 2;
            }
        }
        fate.taken = true;
    }

    int proved(int promise, int n) {
        return isPromise(promise) && isKnown(n) ? hear(n).get(promise).proof : -1;
    }

    int barred(int promise, int n) {
        return isPromise(promise) && isKnown(n) ? hear(n).get(promise).bar : -1;
    }

    int state(int promise, int day, int n) {
        if (!isPromise(promise) || !isDay(day) || !isKnown(n)) {
            return -1;
        }
        Fate fate = hear(n).get(promise);
        if (fate.proof == -1) {
            return 0;
        }
        if (fate.effect > day) {
            return promises.get(promise).condition == -1 ? 1 : 2;
        }
        if (fate.fails) {
            return 3;
        }
        if (!fate.taken) {
            return fate.rival != -1 ? 5 : 4;
        }
        return fate.end <= day ? fate.endBy : 6;
    }

    int force(int promise, int n, int what) {
        if (!isPromise(promise) || !isKnown(n) || what < 0 || what > 5) {
            return -3;
        }
        Fate fate = hear(n).get(promise);
        if (what == 5) {
            return fate.rival;
        }
        if (!fate.taken || fate.end == fate.effect) {
            return -2;
        }
        int end = fate.end == Integer.MAX_VALUE ? -1 : fate.end;
        return new int[] {fate.effect, end, fate.endBy, fate.ender, fate.broken}[what];
    }

    int bound(int person, int day, int n) {
        for (int p = 0; p < promises.size() && isPerson(person); p++) {
            Promise one = promises.get(p);
            if (one.has(person) && state(p, day, n) == 6) {
                return one.first + one.second - person;
            }
        }
        return -1;
    }

    int goes(int gift, int day, int n) {
        if (gift < 0 || gift >= gifts.size() || !isDay(day) || !isKnown(n)) {
            return -1;
        }
        Gift one = gifts.get(gift);
        Fate fate = hear(n).get(one.promise);
        int state = state(one.promise, day, n);
        if (state < 3 || state == 6) {
            return 0;
        }
        int why = state;
        if (state == 9) {
            why = fate.broken == 0 || fate.broken == 3 ? 11 : fate.broken - 1 == one.giver ? 9 : 10;
        }
        int days = state < 7 ? 0 : fate.end - fate.effect;
        Map<String, Integer> vars = Map.of("why", why, "tense", promises.get(one.promise).tense, "days", days);
        for (Rule rule : rulesOf(one.promise)) {
            if (rule.sort.equals("back") && (rule.cond == null || rule.cond.holds(vars))) {
                int share = rule.share.value(vars);
                return one.value * (share < 0 ? 0 : share > 100 ? 100 : share) / 100;
            }
        }
        return 0;
    }

    int owes(int person, int day, int n) {
        int owed = 0;
        for (int g = 0; g < gifts.size() && isPerson(person) && isDay(day) && isKnown(n); g++) {
            Promise one = promises.get(gifts.get(g).promise);
            int giver = gifts.get(g).giver == 0 ? one.first : one.second;
            int taker = gifts.get(g).giver == 0 ? one.second : one.first;
            owed += taker == person ? goes(g, day, n) : giver == person ? -goes(g, day, n) : 0;
        }
        return owed;
    }

    int changed(int day, int n, int m) {
        for (int p = 0; p < promises.size() && isKnown(n) && isKnown(m); p++) {
            if (state(p, day, n) != state(p, day, m)) {
                return p;
            }
        }
        return -1;
    }

    int count(int what) {
        int[] counts = {persons.size(), promises.size(), gifts.size(), facts.size(), laws.size(), tape.length()};
        return what >= 0 && what < 6 ? counts[what] : -1;
    }

    private static boolean isDay(int day) {
        return day >= 0 && day <= 9999;
    }

    private boolean isPerson(int person) {
        return person >= 0 && person < persons.size();
    }

    private boolean isPromise(int promise) {
        return promise >= 0 && promise < promises.size();
    }

    private boolean isKnown(int n) {
        return n >= 0 && n <= facts.size();
    }
}
