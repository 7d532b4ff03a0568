import java.util.Arrays;

/** A court that judges promises to wed; ../shared/DOC.md says what each call answers. */
public final class PromiseCourt {
    public static final int NONE = -1;

    private static final int LAST_DAY = 9999;
    // Behind every DAY, so that "not yet" and "never" are one comparison.
    private static final int NEVER = 10000;
    private static final int PLACES = 4;
    private static final int CONDITIONS = 6;
    private static final int MOST_PERSONS = 12;
    private static final int MOST_PROMISES = 10;
    private static final int MOST_GIFTS = 20;
    private static final int MOST_FACTS = 200;
    private static final int MOST_LAWS = 8;
    private static final int MOST_BYTES = 2000;
    private static final int MOST_VALUE = 1000;
    private static final int FIRST_STRANGER = 100;
    private static final int LAST_STRANGER = 119;
    // Persons come first among the witnesses, strangers behind them.
    private static final int WITNESSES = MOST_PERSONS + LAST_STRANGER - FIRST_STRANGER + 1;

    private static final int MOST_TOKENS = 400;
    private static final int MOST_RULES = 16;
    private static final int DEEPEST = 6;
    private static final int SYNTAX = 1;
    private static final int ROOM = 2;

    // A TOKEN is one int: an INT is its own value, all others have the numbers from 10000 on.
    private static final int NO_TOKEN = -2;
    private static final int TEXT_END = -1;
    private static final int INTS_END = 10000;
    private static final int PROOF = 10000;
    private static final int BAR = 10001;
    private static final int OVER = 10002;
    private static final int LAPSE = 10003;
    private static final int BACK = 10004;
    private static final int IF = 10005;
    private static final int OR = 10006;
    private static final int AND = 10007;
    private static final int FIRST_VAR = 10008;
    private static final int SEMICOLON = 10020;
    private static final int PLUS = 10021;
    private static final int MINUS = 10022;
    private static final int TIMES = 10023;
    private static final int EQUAL = 10024;
    private static final int UNLIKE = 10025;
    private static final int LESS = 10026;
    private static final int AT_MOST = 10027;
    private static final int OPENING = 10028;
    private static final int CLOSING = 10029;

    // The words in the order of their tokens, each in a column of its own.
    private static final String WORDS =
            "proof  bar    over   lapse  back   if     or     and    yes    no     kin    fame   tense  age    degree vow    leave  old    why    days   ";
    private static final int WORD_COLUMN = 7;
    private static final int WORD_COUNT = 20;

    private static final int VARS = 12;
    private static final int YES = 0;
    private static final int NO = 1;
    private static final int KIN = 2;
    private static final int FAMES = 3;
    private static final int TENSE = 4;
    private static final int AGE = 5;
    private static final int DEGREE = 6;
    private static final int VOW = 7;
    private static final int LEAVE = 8;
    private static final int OLD = 9;
    private static final int WHY = 10;
    private static final int DAYS = 11;

    private static final int FAR = 99;
    private static final int KIN_DEGREE = 4;
    private static final int YEAR = 365;

    // Sorts of FACTS; the first four are the kinds of fate().
    private static final int DIES = 0;
    private static final int VOWS = 1;
    private static final int ABSENT = 2;
    private static final int RETURNS = 3;
    private static final int FATES = 4;
    private static final int FREED = 4;
    private static final int MET = 5;
    private static final int FAILS = 6;
    private static final int SAYS_YES = 7;
    private static final int SAYS_NO = 8;
    private static final int FAMED = 9;

    // STATES; WAITING is a promise of which the court has not yet judged.
    private static final int WAITING = -1;
    private static final int UNPROVED = 0;
    private static final int TO_COME = 1;
    private static final int OPEN = 2;
    private static final int FAILED = 3;
    private static final int BARRED = 4;
    private static final int VOID = 5;
    private static final int IN_FORCE = 6;
    private static final int BY_DEATH = 7;
    private static final int BY_LAPSE = 8;
    private static final int BY_LATER = 9;
    private static final int BROKEN_BY_OTHER = 10;
    private static final int BROKEN_BY_NO_ONE_SIDE = 11;
    private static final int DEAD_BAR = -2;
    private static final int NEVER_IN_FORCE = -2;
    private static final int NO_SUCH = -3;

    private final Tape tape;
    private final Grammar grammar;
    private final LawBook laws;
    private final Family family;
    private final Promises promises;
    private final Gifts gifts;
    private final Facts facts;
    private final Judge judge;
    private final int[] earlierStates;
    private int faultPlace;

    public PromiseCourt() {
        tape = new Tape();
        grammar = new Grammar();
        laws = new LawBook();
        family = new Family();
        promises = new Promises();
        gifts = new Gifts();
        facts = new Facts();
        judge = new Judge(laws, family, promises, facts);
        earlierStates = new int[MOST_PROMISES];
        faultPlace = NONE;
    }

    public int feed(int a, int b, int c, int d, int e) {
        if (tape.length + 20 > MOST_BYTES) {
            return NONE;
        }
        tape.append(a);
        tape.append(b);
        tape.append(c);
        tape.append(d);
        tape.append(e);
        return tape.length;
    }

    public int back(int n) {
        if (n < 0 || n > tape.length) {
            return NONE;
        }
        tape.length -= n;
        return tape.length;
    }

    public int read(int place, int day) {
        if (!isPlace(place) || !isDay(day) || laws.size >= MOST_LAWS) {
            return NONE;
        }
        int fault = grammar.parse(tape);
        faultPlace = fault == 0 ? NONE : tape.start;
        if (fault == 0) {
            laws.add(grammar.toLaw(place, day));
        }
        tape.length = 0;
        return fault;
    }

    public int place() {
        return faultPlace;
    }

    public int person(int father, int mother, int birth) {
        if (!isDay(birth) || father != NONE && father == mother) {
            return NONE;
        }
        if (!family.canBear(father, birth) || !family.canBear(mother, birth)) {
            return NONE;
        }
        return family.add(father, mother, birth);
    }

    public int promise(int first, int second, int place, int day, int tense, int condition) {
        if (!areTwoPersons(first, second) || !isPlace(place) || !isDay(day) || tense < 0 || tense > 1) {
            return NONE;
        }
        if (condition != NONE && !isCondition(condition)) {
            return NONE;
        }
        return promises.add(first, second, place, day, tense, condition);
    }

    public int gift(int promise, int giver, int value) {
        if (!isPromise(promise) || giver < 0 || giver > 1 || value < 1 || value > MOST_VALUE) {
            return NONE;
        }
        return gifts.add(promise, giver, value);
    }

    public int says(int witness, int promise, boolean yes) {
        boolean stranger = witness >= FIRST_STRANGER && witness <= LAST_STRANGER;
        if (!isPromise(promise) || !stranger && !family.has(witness)) {
            return NONE;
        }
        if (promises.binds(promise, witness)) {
            return NONE;
        }
        int row = stranger ? MOST_PERSONS + witness - FIRST_STRANGER : witness;
        return facts.add(yes ? SAYS_YES : SAYS_NO, row, promise, 0);
    }

    public int fame(int promise) {
        if (!isPromise(promise)) {
            return NONE;
        }
        return facts.add(FAMED, promise, NONE, 0);
    }

    public int comes(int condition, int day, boolean met) {
        if (!isCondition(condition) || !isDay(day)) {
            return NONE;
        }
        return facts.add(met ? MET : FAILS, condition, NONE, day);
    }

    public int fate(int kind, int person, int day) {
        if (kind < 0 || kind >= FATES || !family.has(person) || !isDay(day)) {
            return NONE;
        }
        return facts.add(kind, person, NONE, day);
    }

    public int leave(int one, int other, int day) {
        if (!areTwoPersons(one, other) || !isDay(day)) {
            return NONE;
        }
        return facts.add(FREED, one, other, day);
    }

    public int degree(int one, int other) {
        if (!family.has(one) || !family.has(other)) {
            return NONE;
        }
        return family.degreeOf(one, other);
    }

    public int gaps(int person) {
        if (!family.has(person)) {
            return NONE;
        }
        return family.gapsOf(person);
    }

    public int law(int promise) {
        if (!isPromise(promise)) {
            return NONE;
        }
        return laws.inForce(promises.place[promise], promises.day[promise]);
    }

    public int proved(int promise, int n) {
        if (!isPromise(promise) || !isKnown(n)) {
            return NONE;
        }
        judge.hear(n);
        return judge.proof[promise];
    }

    public int barred(int promise, int n) {
        if (!isPromise(promise) || !isKnown(n)) {
            return NONE;
        }
        judge.hear(n);
        return judge.bar[promise];
    }

    public int state(int promise, int day, int n) {
        if (!isPromise(promise) || !isDay(day) || !isKnown(n)) {
            return NONE;
        }
        judge.hear(n);
        return judge.stateOn(promise, day);
    }

    public int force(int promise, int n, int what) {
        if (!isPromise(promise) || !isKnown(n) || what < 0 || what > 5) {
            return NO_SUCH;
        }
        judge.hear(n);
        if (what == 5) {
            return judge.voidBy[promise];
        }
        if (!judge.wasInForce(promise)) {
            return NEVER_IN_FORCE;
        }
        switch (what) {
            case 0:
                return judge.effect[promise];
            case 1:
                return judge.end[promise] == NEVER ? NONE : judge.end[promise];
            case 2:
                return judge.endBy[promise];
            case 3:
                return judge.ender[promise];
            default:
                return judge.breakers[promise];
        }
    }

    public int bound(int person, int day, int n) {
        if (!family.has(person) || !isDay(day) || !isKnown(n)) {
            return NONE;
        }
        judge.hear(n);
        for (int p = 0; p < promises.size; p++) {
            if (promises.binds(p, person) && judge.stateOn(p, day) == IN_FORCE) {
                return promises.otherOf(p, person);
            }
        }
        return NONE;
    }

    public int goes(int gift, int day, int n) {
        if (gift < 0 || gift >= gifts.size || !isDay(day) || !isKnown(n)) {
            return NONE;
        }
        judge.hear(n);
        return goingBack(gift, day);
    }

    public int owes(int person, int day, int n) {
        if (!family.has(person) || !isDay(day) || !isKnown(n)) {
            return 0;
        }
        judge.hear(n);
        int owed = 0;
        for (int g = 0; g < gifts.size; g++) {
            int promise = gifts.promise[g];
            if (promises.binds(promise, person)) {
                int amount = goingBack(g, day);
                owed += promises.sideOf(promise, person) == gifts.giver[g] ? -amount : amount;
            }
        }
        return owed;
    }

    public int changed(int day, int n, int m) {
        if (!isDay(day) || !isKnown(n) || !isKnown(m)) {
            return NONE;
        }
        judge.hear(n);
        for (int p = 0; p < promises.size; p++) {
            earlierStates[p] = judge.stateOn(p, day);
        }
        judge.hear(m);
        for (int p = 0; p < promises.size; p++) {
            if (judge.stateOn(p, day) != earlierStates[p]) {
                return p;
            }
        }
        return NONE;
    }

    public int count(int what) {
        switch (what) {
            case 0:
                return family.size;
            case 1:
                return promises.size;
            case 2:
                return gifts.size;
            case 3:
                return facts.size;
            case 4:
                return laws.size;
            case 5:
                return tape.length;
            default:
                return NONE;
        }
    }

    private int goingBack(int gift, int day) {
        int share = judge.shareBack(gifts.promise[gift], gifts.giver[gift], day);
        return gifts.value[gift] * share / 100;
    }

    private boolean areTwoPersons(int one, int other) {
        return family.has(one) && family.has(other) && one != other;
    }

    private boolean isPromise(int promise) {
        return promise >= 0 && promise < promises.size;
    }

    private boolean isKnown(int n) {
        return n >= 0 && n <= facts.size;
    }

    private static boolean isPlace(int place) {
        return place >= 0 && place < PLACES;
    }

    private static boolean isDay(int day) {
        return day >= 0 && day <= LAST_DAY;
    }

    private static boolean isCondition(int condition) {
        return condition >= 0 && condition < CONDITIONS;
    }

    private static boolean isInt(int token) {
        return token >= 0 && token < INTS_END;
    }

    private static boolean isVar(int token) {
        return token >= FIRST_VAR && token < FIRST_VAR + VARS;
    }

    /** The bytes that were fed, and the TOKENS they make. */
    private static final class Tape {
        private final byte[] bytes = new byte[MOST_BYTES];
        private int length = 0;
        private int start = 0;
        private int next = 0;

        private void append(int four) {
            for (int shift = 24; shift >= 0 && length < bytes.length; shift -= 8) {
                bytes[length] = (byte) (four >> shift);
                length++;
            }
        }

        private void rewind() {
            start = 0;
            next = 0;
        }

        /** The next TOKEN, which begins at start; what is none is NO_TOKEN. */
        private int token() {
            while (next < length && isBlank(bytes[next])) {
                next++;
            }
            start = next;
            if (start >= length) {
                return TEXT_END;
            }
            if (isLetter(bytes[start])) {
                return word();
            }
            if (isDigit(bytes[start])) {
                return number();
            }
            return sign(bytes[start]);
        }

        private int word() {
            while (next < length && isLetter(bytes[next])) {
                next++;
            }
            for (int w = 0; w < WORD_COUNT; w++) {
                if (isWord(w * WORD_COLUMN, next - start)) {
                    return PROOF + w;
                }
            }
            // No text goes on with another word, be it a TOKEN or too long for one.
            return NO_TOKEN;
        }

        private boolean isWord(int column, int letters) {
            if (letters >= WORD_COLUMN || WORDS.charAt(column + letters) != ' ') {
                return false;
            }
            for (int i = 0; i < letters; i++) {
                if (WORDS.charAt(column + i) != bytes[start + i]) {
                    return false;
                }
            }
            return true;
        }

        private int number() {
            int value = 0;
            while (next < length && isDigit(bytes[next])) {
                value = value * 10 + bytes[next] - '0';
                next++;
            }
            return next - start > 4 ? NO_TOKEN : value;
        }

        private int sign(byte first) {
            next++;
            switch (first) {
                case ';':
                    return SEMICOLON;
                case '+':
                    return PLUS;
                case '-':
                    return MINUS;
                case '*':
                    return TIMES;
                case '(':
                    return OPENING;
                case ')':
                    return CLOSING;
                default:
                    return relation(first);
            }
        }

        private int relation(byte first) {
            boolean withEquals = next < length && bytes[next] == '=';
            if (withEquals) {
                next++;
            }
            switch (first) {
                case '=':
                    return withEquals ? EQUAL : NO_TOKEN;
                case '!':
                    return withEquals ? UNLIKE : NO_TOKEN;
                case '<':
                    return withEquals ? AT_MOST : LESS;
                default:
                    return NO_TOKEN;
            }
        }

        private static boolean isBlank(byte b) {
            return b == 9 || b == 10 || b == 13 || b == 32;
        }

        private static boolean isLetter(byte b) {
            return b >= 'a' && b <= 'z';
        }

        private static boolean isDigit(byte b) {
            return b >= '0' && b <= '9';
        }
    }

    /** Tells of each TOKEN whether some text goes on with it, and gathers the TOKENS of a text. */
    private static final class Grammar {
        // What may come next.
        private static final int A_RULE = 0;
        private static final int AN_IF = 1;
        private static final int AN_INT = 2;
        private static final int A_SEMICOLON = 3;
        private static final int A_UNIT = 4;
        private static final int BEHIND_UNIT = 5;
        // Which E of a RULE it is.
        private static final int LEFT = 0;
        private static final int RIGHT = 1;
        private static final int SHARE = 2;

        private final int[] tokens = new int[MOST_TOKENS];
        private final int[] rules = new int[MOST_RULES];
        private int tokenCount = 0;
        private int ruleCount = 0;
        private int want = A_RULE;
        private int side = LEFT;
        private int depth = 0;

        /** 0, or the number of the first FAULT, which is at the tape's start. */
        private int parse(Tape tape) {
            tape.rewind();
            tokenCount = 0;
            ruleCount = 0;
            want = A_RULE;
            depth = 0;
            for (int i = 0; i <= MOST_TOKENS; i++) {
                int token = tape.token();
                if (token == TEXT_END) {
                    return want == A_RULE ? 0 : SYNTAX;
                }
                if (!goesOn(token)) {
                    return SYNTAX;
                }
                if (i >= MOST_TOKENS || ruleCount > MOST_RULES || depth > DEEPEST) {
                    return ROOM;
                }
                tokens[i] = token;
                tokenCount = i + 1;
            }
            return ROOM;
        }

        /** The text that was parsed last, which had no FAULT. */
        private Law toLaw(int place, int day) {
            int[] starts = Arrays.copyOf(rules, Math.min(ruleCount, MOST_RULES));
            return new Law(place, day, Arrays.copyOf(tokens, tokenCount), starts);
        }

        private boolean goesOn(int token) {
            switch (want) {
                case A_RULE:
                    return begins(token);
                case AN_IF:
                    side = LEFT;
                    want = A_UNIT;
                    return token == IF;
                case AN_INT:
                    want = A_SEMICOLON;
                    return isInt(token);
                case A_SEMICOLON:
                    want = A_RULE;
                    return token == SEMICOLON;
                case A_UNIT:
                    return isUnit(token);
                default:
                    return goesBehindUnit(token);
            }
        }

        private boolean begins(int token) {
            if (ruleCount < MOST_RULES) {
                rules[ruleCount] = tokenCount;
            }
            ruleCount++;
            if (token == LAPSE) {
                want = AN_INT;
                return true;
            }
            if (token == BACK) {
                side = SHARE;
                want = A_UNIT;
                return true;
            }
            want = AN_IF;
            return token == PROOF || token == BAR || token == OVER;
        }

        private boolean isUnit(int token) {
            if (token == OPENING) {
                depth++;
                return true;
            }
            want = BEHIND_UNIT;
            return isInt(token) || isVar(token);
        }

        private boolean goesBehindUnit(int token) {
            if (token == CLOSING) {
                depth--;
                return depth >= 0;
            }
            if (token == PLUS || token == MINUS || token == TIMES) {
                want = A_UNIT;
                return true;
            }
            return depth == 0 && goesBehindE(token);
        }

        private boolean goesBehindE(int token) {
            if (token == SEMICOLON) {
                want = A_RULE;
                return side != LEFT;
            }
            want = A_UNIT;
            if (side == LEFT) {
                side = RIGHT;
                return token >= EQUAL && token <= AT_MOST;
            }
            boolean share = side == SHARE;
            side = LEFT;
            return share ? token == IF : token == AND || token == OR;
        }
    }

    /** A text of a PLACE that is in force from a DAY on. */
    private static final class Law {
        private final int place;
        private final int day;
        private final int[] tokens;
        // Where each RULE begins among the TOKENS.
        private final int[] rules;

        private Law(int place, int day, int[] tokens, int[] rules) {
            this.place = place;
            this.day = day;
            this.tokens = tokens;
            this.rules = rules;
        }

        private int tokenAt(int i) {
            return i >= 0 && i < tokens.length ? tokens[i] : TEXT_END;
        }

        /** The first RULE of a sort whose COND holds, or NONE. */
        private int firstHolding(int sort, Reckoner reckoner) {
            for (int r = 0; r < rules.length; r++) {
                if (tokenAt(rules[r]) == sort && reckoner.holds(this, rules[r] + 2)) {
                    return r;
                }
            }
            return NONE;
        }

        /** The days of the first lapse RULE, or NONE. */
        private int lapseDays() {
            for (int r = 0; r < rules.length; r++) {
                if (tokenAt(rules[r]) == LAPSE) {
                    return tokenAt(rules[r] + 1);
                }
            }
            return NONE;
        }

        /** What the first back RULE that holds says, held to 0 .. 100. */
        private int share(Reckoner reckoner) {
            for (int r = 0; r < rules.length; r++) {
                if (tokenAt(rules[r]) == BACK) {
                    int share = reckoner.valueOf(this, rules[r] + 1);
                    int behind = reckoner.stop;
                    if (tokenAt(behind) != IF || reckoner.holds(this, behind + 1)) {
                        return Math.max(0, Math.min(100, share));
                    }
                }
            }
            return 0;
        }
    }

    /** The LAWS in the order in which they were read. */
    private static final class LawBook {
        private final Law[] texts = new Law[MOST_LAWS];
        private final Law lawless = new Law(NONE, NONE, new int[0], new int[0]);
        private int size = 0;

        private void add(Law law) {
            if (size < MOST_LAWS) {
                texts[size] = law;
                size++;
            }
        }

        private int inForce(int place, int day) {
            int found = NONE;
            int since = NONE;
            for (int i = 0; i < size; i++) {
                Law law = texts[i];
                if (law != null && law.place == place && law.day <= day && law.day >= since) {
                    found = i;
                    since = law.day;
                }
            }
            return found;
        }

        private Law lawOn(int place, int day) {
            int i = inForce(place, day);
            if (i < 0 || texts[i] == null) {
                return lawless;
            }
            return texts[i];
        }
    }

    /** Reckons E and COND over a row of VARS. */
    private static final class Reckoner {
        private final int[] vars = new int[VARS];
        // For each ( that is open: the sum of its done PARTS, and the PART that goes on, with its sign.
        private final int[] sums = new int[DEEPEST + 1];
        private final int[] parts = new int[DEEPEST + 1];
        private int stop = 0;

        private void clear() {
            Arrays.fill(vars, 0);
        }

        private boolean holds(Law law, int from) {
            boolean all = true;
            stop = from - 1;
            for (int rel = 0; rel < MOST_TOKENS; rel++) {
                int left = valueOf(law, stop + 1);
                int relation = law.tokenAt(stop);
                int right = valueOf(law, stop + 1);
                all = all && compares(left, relation, right);
                int behind = law.tokenAt(stop);
                if (behind != AND) {
                    if (all || behind != OR) {
                        return all;
                    }
                    all = true;
                }
            }
            return false;
        }

        /** The E that begins at from; stop is then the TOKEN behind it. */
        private int valueOf(Law law, int from) {
            int depth = 0;
            sums[0] = 0;
            parts[0] = 1;
            int i = Math.max(0, from);
            for (; i < law.tokens.length; i++) {
                int token = law.tokens[i];
                if (token < INTS_END) {
                    parts[depth] *= token;
                } else if (token >= FIRST_VAR && token < FIRST_VAR + VARS) {
                    parts[depth] *= vars[token - FIRST_VAR];
                } else if (token == PLUS || token == MINUS) {
                    sums[depth] += parts[depth];
                    parts[depth] = token == PLUS ? 1 : -1;
                } else if (token == OPENING && depth < DEEPEST) {
                    depth++;
                    sums[depth] = 0;
                    parts[depth] = 1;
                } else if (token == CLOSING && depth > 0) {
                    depth--;
                    parts[depth] *= sums[depth + 1] + parts[depth + 1];
                } else if (token != TIMES) {
                    break;
                }
            }
            stop = i;
            return sums[0] + parts[0];
        }

        private static boolean compares(int left, int relation, int right) {
            switch (relation) {
                case EQUAL:
                    return left == right;
                case UNLIKE:
                    return left != right;
                case LESS:
                    return left < right;
                case AT_MOST:
                    return left <= right;
                default:
                    return false;
            }
        }
    }

    /** PERSONS and how they are kin. */
    private static final class Family {
        private final int[] father = new int[MOST_PERSONS];
        private final int[] mother = new int[MOST_PERSONS];
        private final int[] birth = new int[MOST_PERSONS];
        // A row a PERSON: the STEPS to each PERSON, FAR if that is no forebear.
        private final int[] steps = new int[MOST_PERSONS * MOST_PERSONS];
        // Forebears of one PERSON: it is at 1, the father of the one at i is at 2i, the mother at 2i + 1.
        private final int[] line = new int[16];
        private int size = 0;

        private boolean has(int person) {
            return person >= 0 && person < size;
        }

        private boolean canBear(int parent, int day) {
            return parent == NONE || has(parent) && birth[parent] < day;
        }

        private int add(int father, int mother, int birth) {
            if (size >= MOST_PERSONS) {
                return NONE;
            }
            int person = size;
            this.father[person] = father;
            this.mother[person] = mother;
            this.birth[person] = birth;
            size++;
            for (int other = 0; other < MOST_PERSONS; other++) {
                int byParents = Math.min(stepsTo(father, other), stepsTo(mother, other));
                steps[person * MOST_PERSONS + other] = Math.min(FAR, byParents + 1);
            }
            steps[person * MOST_PERSONS + person] = 0;
            return person;
        }

        private int stepsTo(int person, int forebear) {
            return has(person) ? steps[person * MOST_PERSONS + forebear] : FAR;
        }

        private int degreeOf(int one, int other) {
            int least = FAR;
            for (int f = 0; f < size; f++) {
                least = Math.min(least, Math.max(stepsTo(one, f), stepsTo(other, f)));
            }
            return least;
        }

        private int gapsOf(int person) {
            int gaps = 0;
            line[1] = person;
            for (int spot = 2; spot < line.length; spot++) {
                int child = line[spot / 2];
                line[spot] = has(child) ? parentOf(child, spot % 2) : NONE;
                if (line[spot] == NONE) {
                    gaps++;
                }
            }
            return gaps;
        }

        private int parentOf(int child, int side) {
            return side == 0 ? father[child] : mother[child];
        }
    }

    /** PROMISES, a row each. */
    private static final class Promises {
        private final int[] first = new int[MOST_PROMISES];
        private final int[] second = new int[MOST_PROMISES];
        private final int[] place = new int[MOST_PROMISES];
        private final int[] day = new int[MOST_PROMISES];
        private final int[] tense = new int[MOST_PROMISES];
        private final int[] condition = new int[MOST_PROMISES];
        private int size = 0;

        private int add(int first, int second, int place, int day, int tense, int condition) {
            if (size >= MOST_PROMISES) {
                return NONE;
            }
            this.first[size] = first;
            this.second[size] = second;
            this.place[size] = place;
            this.day[size] = day;
            this.tense[size] = tense;
            this.condition[size] = condition;
            size++;
            return size - 1;
        }

        private boolean binds(int p, int person) {
            return first[p] == person || second[p] == person;
        }

        private int otherOf(int p, int person) {
            return first[p] == person ? second[p] : first[p];
        }

        private int sideOf(int p, int person) {
            return first[p] == person ? 0 : 1;
        }

        /** Those of p who are in q too: 0 nobody, 1 the first of p, 2 the second, 3 both. */
        private int shared(int p, int q) {
            return (binds(q, first[p]) ? 1 : 0) + (binds(q, second[p]) ? 2 : 0);
        }
    }

    /** GIFTS, a row each. */
    private static final class Gifts {
        private final int[] promise = new int[MOST_GIFTS];
        private final int[] giver = new int[MOST_GIFTS];
        private final int[] value = new int[MOST_GIFTS];
        private int size = 0;

        private int add(int promise, int giver, int value) {
            if (size >= MOST_GIFTS) {
                return NONE;
            }
            this.promise[size] = promise;
            this.giver[size] = giver;
            this.value[size] = value;
            size++;
            return size - 1;
        }
    }

    /** FACTS in the order in which they were told; only those that are known answer questions. */
    private static final class Facts {
        private final int[] sort = new int[MOST_FACTS];
        private final int[] whom = new int[MOST_FACTS];
        private final int[] other = new int[MOST_FACTS];
        private final int[] day = new int[MOST_FACTS];
        private int size = 0;
        private int known = 0;

        private int add(int sort, int whom, int other, int day) {
            if (size >= MOST_FACTS) {
                return NONE;
            }
            this.sort[size] = sort;
            this.whom[size] = whom;
            this.other[size] = other;
            this.day[size] = day;
            size++;
            return size - 1;
        }

        private void recall(int n) {
            known = Math.max(0, Math.min(n, size));
        }

        /** The earliest DAY of such a fate, or NEVER. */
        private int firstDay(int kind, int person) {
            int earliest = NEVER;
            for (int i = 0; i < known; i++) {
                if (sort[i] == kind && whom[i] == person) {
                    earliest = Math.min(earliest, day[i]);
                }
            }
            return earliest;
        }

        private int firstLeave(int one, int two) {
            int earliest = NEVER;
            for (int i = 0; i < known; i++) {
                boolean both = whom[i] == one && other[i] == two || whom[i] == two && other[i] == one;
                if (sort[i] == FREED && both) {
                    earliest = Math.min(earliest, day[i]);
                }
            }
            return earliest;
        }

        private int famesOf(int promise) {
            int fames = 0;
            for (int i = 0; i < known; i++) {
                if (sort[i] == FAMED && whom[i] == promise) {
                    fames++;
                }
            }
            return fames;
        }

        /** The FACT by which a CONDITION is MET or FAILS, or NONE. */
        private int deciding(int condition) {
            int found = NONE;
            for (int i = 0; i < known; i++) {
                boolean decides = (sort[i] == MET || sort[i] == FAILS) && whom[i] == condition;
                if (decides && (found == NONE || day[i] < day[found])) {
                    found = i;
                }
            }
            return found;
        }

        /** Puts into said what each WITNESS said last of a PROMISE: its sort, or NONE. */
        private void lastWords(int promise, int[] said) {
            Arrays.fill(said, NONE);
            for (int i = 0; i < known; i++) {
                boolean word = sort[i] == SAYS_YES || sort[i] == SAYS_NO;
                if (word && other[i] == promise && whom[i] >= 0 && whom[i] < said.length) {
                    said[whom[i]] = sort[i];
                }
            }
        }

        /** The first DAY, from one on, on which a PERSON has been ABSENT for so long, or NEVER. */
        private int firstLapse(int person, int days, int from) {
            int earliest = NEVER;
            for (int i = 0; i < known; i++) {
                if (sort[i] == ABSENT && whom[i] == person) {
                    int lapse = Math.max(from, day[i] + days);
                    if (lapse < earliest && !returns(person, day[i], lapse)) {
                        earliest = lapse;
                    }
                }
            }
            return earliest;
        }

        private boolean returns(int person, int from, int to) {
            for (int i = 0; i < known; i++) {
                if (sort[i] == RETURNS && whom[i] == person && day[i] >= from && day[i] <= to) {
                    return true;
                }
            }
            return false;
        }
    }

    /** Judges all PROMISES, as KNOWN by n; its rows then tell what became of each. */
    private static final class Judge {
        private final LawBook laws;
        private final Family family;
        private final Promises promises;
        private final Facts facts;
        private final Reckoner reckoner = new Reckoner();
        private final int[] said = new int[WITNESSES];
        private final int[] proof = new int[MOST_PROMISES];
        private final int[] effect = new int[MOST_PROMISES];
        private final int[] verdict = new int[MOST_PROMISES];
        private final int[] bar = new int[MOST_PROMISES];
        private final int[] voidBy = new int[MOST_PROMISES];
        private final int[] end = new int[MOST_PROMISES];
        private final int[] endBy = new int[MOST_PROMISES];
        private final int[] ender = new int[MOST_PROMISES];
        private final int[] breakers = new int[MOST_PROMISES];

        private Judge(LawBook laws, Family family, Promises promises, Facts facts) {
            this.laws = laws;
            this.family = family;
            this.promises = promises;
            this.facts = facts;
        }

        private void hear(int n) {
            facts.recall(n);
            for (int p = 0; p < promises.size; p++) {
                prepare(p);
            }
            for (int turn = 0; turn < promises.size; turn++) {
                int p = nextWaiting();
                if (p == NONE) {
                    return;
                }
                settle(p);
            }
        }

        private int stateOn(int p, int day) {
            if (verdict[p] == UNPROVED) {
                return UNPROVED;
            }
            if (day < effect[p]) {
                return promises.condition[p] == NONE ? TO_COME : OPEN;
            }
            if (verdict[p] == IN_FORCE && end[p] <= day) {
                return endBy[p];
            }
            return verdict[p];
        }

        private boolean wasInForce(int p) {
            return verdict[p] == IN_FORCE && end[p] > effect[p];
        }

        /** How much of 100 of a gift by that side goes BACK. */
        private int shareBack(int p, int giver, int day) {
            int why = stateOn(p, day);
            if (why < FAILED || why == IN_FORCE) {
                return 0;
            }
            reckoner.clear();
            reckoner.vars[WHY] = why == BY_LATER ? breachFor(p, giver) : why;
            reckoner.vars[TENSE] = promises.tense[p];
            reckoner.vars[DAYS] = why > IN_FORCE ? end[p] - effect[p] : 0;
            return lawOf(p).share(reckoner);
        }

        private int breachFor(int p, int giver) {
            if (breakers[p] == giver + 1) {
                return BY_LATER;
            }
            return breakers[p] == 2 - giver ? BROKEN_BY_OTHER : BROKEN_BY_NO_ONE_SIDE;
        }

        private Law lawOf(int p) {
            return laws.lawOn(promises.place[p], promises.day[p]);
        }

        private void prepare(int p) {
            bar[p] = NONE;
            voidBy[p] = NONE;
            end[p] = NEVER;
            endBy[p] = 0;
            ender[p] = NONE;
            breakers[p] = 0;
            findEffect(p);
            weighWords(p);
            proof[p] = lawOf(p).firstHolding(PROOF, reckoner);
            if (proof[p] == NONE) {
                verdict[p] = UNPROVED;
            }
        }

        private void findEffect(int p) {
            effect[p] = promises.day[p];
            verdict[p] = WAITING;
            if (promises.condition[p] == NONE) {
                return;
            }
            int fact = facts.deciding(promises.condition[p]);
            if (fact == NONE) {
                effect[p] = NEVER;
                verdict[p] = OPEN;
                return;
            }
            effect[p] = Math.max(effect[p], facts.day[fact]);
            if (facts.sort[fact] == FAILS) {
                verdict[p] = FAILED;
            }
        }

        private void weighWords(int p) {
            int[] vars = reckoner.vars;
            reckoner.clear();
            vars[FAMES] = facts.famesOf(p);
            vars[TENSE] = promises.tense[p];
            facts.lastWords(p, said);
            for (int w = 0; w < WITNESSES; w++) {
                if (said[w] != NONE) {
                    boolean yes = said[w] == SAYS_YES;
                    if (!isKin(w, p)) {
                        vars[yes ? YES : NO]++;
                    } else if (yes) {
                        vars[KIN]++;
                    }
                }
            }
        }

        private boolean isKin(int witness, int p) {
            return family.has(witness)
                    && (family.degreeOf(witness, promises.first[p]) <= KIN_DEGREE
                    || family.degreeOf(witness, promises.second[p]) <= KIN_DEGREE);
        }

        private int nextWaiting() {
            int next = NONE;
            for (int p = 0; p < promises.size; p++) {
                if (verdict[p] == WAITING && (next == NONE || effect[p] < effect[next])) {
                    next = p;
                }
            }
            return next;
        }

        private void settle(int p) {
            bar[p] = firstBar(p);
            if (bar[p] != NONE) {
                verdict[p] = BARRED;
                return;
            }
            voidBy[p] = firstUnyielding(p);
            if (voidBy[p] != NONE) {
                verdict[p] = VOID;
                return;
            }
            endRivals(p);
            verdict[p] = IN_FORCE;
            findEnd(p);
        }

        private int firstBar(int p) {
            int first = promises.first[p];
            int second = promises.second[p];
            if (firstOfBoth(DIES, p) <= effect[p]) {
                return DEAD_BAR;
            }
            int[] vars = reckoner.vars;
            reckoner.clear();
            vars[DEGREE] = family.degreeOf(first, second);
            vars[VOW] = vowed(first, effect[p]) + vowed(second, effect[p]);
            vars[LEAVE] = facts.firstLeave(first, second) <= effect[p] ? 1 : 0;
            int lived = effect[p] - Math.max(family.birth[first], family.birth[second]);
            vars[AGE] = Math.max(0, lived) / YEAR;
            vars[TENSE] = promises.tense[p];
            return lawOf(p).firstHolding(BAR, reckoner);
        }

        private int firstOfBoth(int kind, int p) {
            return Math.min(facts.firstDay(kind, promises.first[p]),
                    facts.firstDay(kind, promises.second[p]));
        }

        private int vowed(int person, int day) {
            return facts.firstDay(VOWS, person) <= day ? 1 : 0;
        }

        private boolean isRival(int q, int p) {
            return verdict[q] == IN_FORCE && end[q] > effect[p] && promises.shared(q, p) != 0;
        }

        /** The least RIVAL that no over RULE ends, or NONE. */
        private int firstUnyielding(int p) {
            Law law = lawOf(p);
            for (int q = 0; q < promises.size; q++) {
                if (isRival(q, p) && promises.shared(q, p) != 3) {
                    reckoner.clear();
                    reckoner.vars[OLD] = promises.tense[q];
                    reckoner.vars[TENSE] = promises.tense[p];
                    reckoner.vars[DAYS] = effect[p] - effect[q];
                    if (law.firstHolding(OVER, reckoner) == NONE) {
                        return q;
                    }
                }
            }
            return NONE;
        }

        private void endRivals(int p) {
            for (int q = 0; q < promises.size; q++) {
                if (isRival(q, p)) {
                    int both = promises.shared(q, p);
                    end[q] = effect[p];
                    endBy[q] = BY_LATER;
                    ender[q] = p;
                    // Two who promise each other anew break nothing.
                    breakers[q] = both == 3 ? 0 : both;
                }
            }
        }

        private void findEnd(int p) {
            int death = firstOfBoth(DIES, p);
            if (death < NEVER) {
                end[p] = death;
                endBy[p] = BY_DEATH;
            }
            int days = lawOf(p).lapseDays();
            if (days == NONE) {
                return;
            }
            int lapse = Math.min(facts.firstLapse(promises.first[p], days, effect[p]),
                    facts.firstLapse(promises.second[p], days, effect[p]));
            if (lapse < end[p]) {
                end[p] = lapse;
                endBy[p] = BY_LAPSE;
            }
        }
    }
}
