/** A budget jury of parish projects. The promises that it keeps are numbered in ../shared/DOC.md. */
public final class BudgetJury {
    private static final int MOST_BYTES = 2000;
    private static final int BYTES_OF_A_FEED = 20;
    private static final int MOST_TOKENS = 400;
    private static final int MOST_DEPTH = 8;
    private static final int MOST_WARDS = 4;
    private static final int MOST_PROJECTS = 12;
    private static final int MOST_VOTERS = 12;
    private static final int MOST_BANS = 12;
    private static final int MOST_COINS = 9999;
    private static final int MOST_CAP = 12;
    private static final int MOST_FIRST_COST = 999;
    private static final int MOST_GROWS = 50;
    private static final int MOST_GIFT = 999;
    private static final int MOST_OF_A_NUMBER = 999999;
    private static final int FIRST_BUDGET = 100;
    private static final int MOST_YEARS = 60;
    private static final int MOST_YEARS_OF_ADVICE = 20;
    private static final int NONE = -1;

    private final byte[] tape = new byte[MOST_BYTES];
    private int tapeLength;
    private int errorPosition = NONE;
    private Plan plan = new Plan();
    // A list with an error must leave the plan as it was, so each list is read into the other one.
    private Plan draft = new Plan();
    private final Tokens tokens = new Tokens(tape);
    private final Grammar grammar = new Grammar(tokens, draft);
    private final Checker checker = new Checker(tokens, grammar);
    private final Parish now = new Parish(plan);
    // What would be is tried out here; made once, as all calls of a run live in one room.
    private final Parish trial = new Parish(plan);

    public BudgetJury() {
    }

    // ---- the language

    public int feed(int a, int b, int c, int d, int e) throws IllegalStateException {
        if (tapeLength > MOST_BYTES - BYTES_OF_A_FEED) {
            throw new IllegalStateException("the tape is full");
        }
        append(a);
        append(b);
        append(c);
        append(d);
        append(e);
        return tapeLength;
    }

    private void append(int four) {
        for (int shift = 24; shift >= 0; shift -= 8) {
            if (tapeLength < MOST_BYTES) {
                tape[tapeLength] = (byte) (four >> shift);
                tapeLength++;
            }
        }
    }

    public int trim(int n) throws IllegalArgumentException {
        if (n < 0 || n > tapeLength) {
            throw new IllegalArgumentException("not 0 to the number of bytes of the tape");
        }
        tapeLength = n;
        return n;
    }

    public int teach() {
        tokens.cut(tapeLength);
        tapeLength = 0;
        int error = grammar.isList(draft) ? checker.fill(draft) : 1;
        if (error != 0) {
            errorPosition = tokens.startOf(error == 1 ? grammar.at : checker.at);
            return error;
        }
        errorPosition = NONE;
        Plan old = plan;
        plan = draft;
        draft = old;
        now.begin(plan);
        return 0;
    }

    public int errorAt() {
        return errorPosition;
    }

    public int count(int what) throws IndexOutOfBoundsException {
        if (what < 0 || what > 11) {
            throw new IndexOutOfBoundsException("what is not 0 to 11");
        }
        return countOf(what);
    }

    private int countOf(int what) {
        switch (what) {
            case 0: return now.year;
            case 1: return plan.wards;
            case 2: return plan.projects;
            case 3: return plan.voters;
            case 4: return plan.bans;
            case 5: return now.budget;
            case 11: return tapeLength;
            default: return now.total(what);
        }
    }

    // ---- what there is

    public int ward(int ward, int what) throws IndexOutOfBoundsException {
        if (!plan.hasWard(ward)) {
            throw new IndexOutOfBoundsException("no such ward");
        }
        if (what < 0 || what > 3) {
            throw new IndexOutOfBoundsException("what is not 0 to 3");
        }
        return now.ofWard(ward, what);
    }

    public int project(int project, int what) throws IndexOutOfBoundsException {
        if (!plan.hasProject(project)) {
            throw new IndexOutOfBoundsException("no such project");
        }
        if (what < 0 || what > 7) {
            throw new IndexOutOfBoundsException("what is not 0 to 7");
        }
        return now.ofProject(project, what);
    }

    public int share(int project) throws IndexOutOfBoundsException {
        if (!plan.hasProject(project)) {
            throw new IndexOutOfBoundsException("no such project");
        }
        return now.shareOf(project);
    }

    public int voter(int voter, int what) throws IndexOutOfBoundsException {
        if (!plan.hasVoter(voter)) {
            throw new IndexOutOfBoundsException("no such voter");
        }
        if (what < 0 || what > 3) {
            throw new IndexOutOfBoundsException("what is not 0 to 3");
        }
        return now.ofVoter(voter, what);
    }

    public boolean likes(int voter, int project) throws IndexOutOfBoundsException {
        if (!plan.hasVoter(voter) || !plan.hasProject(project)) {
            throw new IndexOutOfBoundsException("no such voter or no such project");
        }
        return now.isFan(voter, project);
    }

    public int envy(int a, int b) throws IndexOutOfBoundsException {
        if (!plan.hasVoter(a) || !plan.hasVoter(b)) {
            throw new IndexOutOfBoundsException("no such voter");
        }
        return now.pleasedOf(b) - now.pleasedOf(a);
    }

    public int next() {
        trial.copy(now);
        trial.collect();
        return trial.bestToBuy();
    }

    // ---- by hand

    public boolean approve(int voter, int project, boolean does) throws IndexOutOfBoundsException {
        if (!plan.hasVoter(voter) || !plan.hasProject(project)) {
            throw new IndexOutOfBoundsException("no such voter or no such project");
        }
        boolean did = now.isFan(voter, project);
        now.setFan(voter, project, does);
        return did;
    }

    public int give(int voter, int coins) throws IndexOutOfBoundsException, IllegalArgumentException {
        if (!plan.hasVoter(voter)) {
            throw new IndexOutOfBoundsException("no such voter");
        }
        if (coins < 1 || coins > MOST_GIFT) {
            throw new IllegalArgumentException("coins are not 1 to 999");
        }
        now.putIntoPurse(voter, coins);
        return now.purse[voter];
    }

    public int setBudget(int budget) throws IllegalArgumentException {
        if (budget < 0 || budget > MOST_COINS) {
            throw new IllegalArgumentException("the budget is not 0 to 9999");
        }
        int before = now.budget;
        now.budget = budget;
        return before;
    }

    public int open(int project) throws IndexOutOfBoundsException, IllegalStateException {
        if (!plan.hasProject(project)) {
            throw new IndexOutOfBoundsException("no such project");
        }
        if (now.isOpen(project)) {
            throw new IllegalStateException("the project is open");
        }
        int year = now.builtIn[project];
        now.reopen(project);
        return year;
    }

    // ---- years

    public int pass(int years) throws IllegalArgumentException {
        if (years < 1 || years > MOST_YEARS) {
            throw new IllegalArgumentException("years are not 1 to 60");
        }
        int before = now.builtCount();
        now.runYears(years);
        return now.builtCount() - before;
    }

    // ---- what would be

    public int until(int project) throws IndexOutOfBoundsException {
        if (!plan.hasProject(project)) {
            throw new IndexOutOfBoundsException("no such project");
        }
        trial.copy(now);
        for (int years = 0; years <= MOST_YEARS; years++) {
            if (years > 0) {
                trial.runYears(1);
            }
            if (!trial.isOpen(project)) {
                return years;
            }
        }
        return NONE;
    }

    public int foresee(int years, int what) throws IllegalArgumentException, IndexOutOfBoundsException {
        if (years < 1 || years > MOST_YEARS) {
            throw new IllegalArgumentException("years are not 1 to 60");
        }
        if (what < 6 || what > 10) {
            throw new IndexOutOfBoundsException("what is not 6 to 10");
        }
        trial.copy(now);
        trial.runYears(years);
        return trial.total(what);
    }

    public int advise(int voter, int years) throws IndexOutOfBoundsException, IllegalArgumentException {
        if (!plan.hasVoter(voter)) {
            throw new IndexOutOfBoundsException("no such voter");
        }
        if (years < 1 || years > MOST_YEARS_OF_ADVICE) {
            throw new IllegalArgumentException("years are not 1 to 20");
        }
        trial.copy(now);
        trial.runYears(years);
        int best = NONE;
        int most = trial.pleasedOf(voter);
        for (int project = 0; project < plan.projects; project++) {
            if (now.isOpen(project) && !now.isFan(voter, project)) {
                trial.copy(now);
                trial.setFan(voter, project, true);
                trial.runYears(years);
                if (trial.pleasedOf(voter) > most) {
                    most = trial.pleasedOf(voter);
                    best = project;
                }
            }
        }
        return best;
    }

    public int spare(int years) throws IllegalArgumentException {
        if (years < 1 || years > MOST_YEARS_OF_ADVICE) {
            throw new IllegalArgumentException("years are not 1 to 20");
        }
        int best = NONE;
        int most = NONE;
        for (int project = 0; project < plan.projects; project++) {
            if (now.isOpen(project)) {
                trial.copy(now);
                trial.leftOut = project;
                trial.runYears(years);
                if (trial.builtCount() > most) {
                    most = trial.builtCount();
                    best = project;
                }
            }
        }
        return best;
    }

    public double mean() {
        if (plan.voters == 0) {
            return 0;
        }
        int pleased = 0;
        for (int voter = 0; voter < plan.voters; voter++) {
            pleased += now.pleasedOf(voter);
        }
        return (double) pleased / plan.voters;
    }

    public long digest() {
        long d = 881;
        for (int what = 0; what <= 11; what++) {
            d = d * 31 + countOf(what);
        }
        for (int ward = 0; ward < plan.wards; ward++) {
            for (int what = 0; what <= 3; what++) {
                d = d * 31 + now.ofWard(ward, what);
            }
        }
        for (int project = 0; project < plan.projects; project++) {
            for (int what = 0; what <= 7; what++) {
                d = d * 31 + now.ofProject(project, what);
            }
            d = d * 31 + now.shareOf(project);
        }
        for (int voter = 0; voter < plan.voters; voter++) {
            for (int what = 0; what <= 3; what++) {
                d = d * 31 + now.ofVoter(voter, what);
            }
        }
        return d * 31 + next();
    }

    /** The kinds of tokens. A symbol of one sign is of the kind that its byte says. */
    private static final class Kind {
        static final int NAME = 256;
        static final int NUMBER = 257;
        static final int AT_MOST = 258;
        static final int AT_LEAST = 259;
        static final int END = 260;
        static final int BAD = 261;
        // In the order of WORDS, the first one by its number.
        static final String WORDS = "ward cap project cost in grows voter likes budget ban when year pot purse fans built pleased not and or min max ";
        static final int WORD_COUNT = 22;
        static final int WARD = 300;
        static final int CAP = 301;
        static final int PROJECT = 302;
        static final int COST = 303;
        static final int IN = 304;
        static final int GROWS = 305;
        static final int VOTER = 306;
        static final int LIKES = 307;
        static final int BUDGET = 308;
        static final int BAN = 309;
        static final int WHEN = 310;
        static final int YEAR = 311;
        static final int POT = 312;
        static final int PURSE = 313;
        static final int FANS = 314;
        static final int BUILT = 315;
        static final int PLEASED = 316;
        static final int NOT = 317;
        static final int AND = 318;
        static final int OR = 319;
        static final int MIN = 320;
        static final int MAX = 321;
    }

    /** What a keyword, name or number stands for in its line; the Checker goes by it. */
    private static final class Role {
        static final int FREE = 0;
        static final int NEW_WARD = 1;
        static final int NEW_PROJECT = 2;
        static final int NEW_VOTER = 3;
        static final int NEW_BAN = 4;
        static final int CAP = 5;
        static final int COST = 6;
        static final int GROWS = 7;
        static final int BUDGET = 8;
        static final int HOME_WARD = 9;
        static final int LIKED = 10;
        static final int BANNED = 11;
        static final int SOME_PROJECT = 12;
        static final int SOME_VOTER = 13;
        static final int VALUE = 14;
    }

    /** The steps of a test. A test is kept as steps on a stack, so that looking at it takes no recursion. */
    private static final class Step {
        static final int STOP = 0;
        static final int PUSH = 1;
        static final int YEAR = 2;
        static final int POT = 3;
        static final int COST = 4;
        static final int FANS = 5;
        static final int PURSE = 6;
        static final int PLEASED = 7;
        static final int BUILT = 8;
        static final int NEGATE = 9;
        static final int NOT = 10;
        // From here on each step takes two values from the stack.
        static final int LIKES = 11;
        static final int ADD = 12;
        static final int SUBTRACT = 13;
        static final int MULTIPLY = 14;
        static final int DIVIDE = 15;
        static final int MIN = 16;
        static final int MAX = 17;
        static final int LESS = 18;
        static final int MORE = 19;
        static final int EQUAL = 20;
        static final int AT_MOST = 21;
        static final int AT_LEAST = 22;
        static final int AND = 23;
        static final int OR = 24;
    }

    /** The tape, cut into tokens; the last one is END or BAD. */
    private static final class Tokens {
        static final int LONGEST_WORD = 10;
        static final int LONGEST_NUMBER = 6;
        static final String SYMBOLS = "()[];,+-*/<>=";

        final int[] kind = new int[MOST_TOKENS + 1];
        // A word as a number with the base 37 (ten signs fit into a long), or what a number says.
        final long[] value = new long[MOST_TOKENS + 1];
        private final int[] start = new int[MOST_TOKENS + 1];
        private final long[] keywords = new long[Kind.WORD_COUNT];
        private final byte[] tape;
        private int length;
        private int at;

        Tokens(byte[] tape) {
            this.tape = tape;
            int word = 0;
            for (int i = 0; i < Kind.WORDS.length(); i++) {
                char sign = Kind.WORDS.charAt(i);
                if (sign == ' ') {
                    word++;
                } else if (word < Kind.WORD_COUNT) {
                    keywords[word] = keywords[word] * 37 + digitOf(sign);
                }
            }
        }

        void cut(int newLength) {
            length = Math.min(newLength, tape.length);
            at = 0;
            for (int token = 0; token <= MOST_TOKENS; token++) {
                skipBlanks();
                start[token] = at;
                value[token] = 0;
                if (at >= length) {
                    kind[token] = Kind.END;
                } else {
                    kind[token] = token == MOST_TOKENS ? Kind.BAD : cutOne(token);
                }
                if (kind[token] == Kind.END || kind[token] == Kind.BAD) {
                    return;
                }
            }
        }

        int startOf(int token) {
            return token >= 0 && token < start.length ? start[token] : NONE;
        }

        private void skipBlanks() {
            for (; at < length; at++) {
                if (signAt(at) != ' ' && signAt(at) != '\n') {
                    return;
                }
            }
        }

        /** Reads the token that begins here, goes behind it, and returns its kind. */
        private int cutOne(int token) {
            if (isLetter(signAt(at))) {
                return cutWord(token);
            }
            return isDigit(signAt(at)) ? cutNumber(token) : cutSymbol();
        }

        private int cutWord(int token) {
            long code = 0;
            int from = at;
            for (; at < length && (isLetter(signAt(at)) || isDigit(signAt(at))); at++) {
                code = code * 37 + digitOf((char) signAt(at));
            }
            if (at - from > LONGEST_WORD) {
                return Kind.BAD;
            }
            value[token] = code;
            for (int word = 0; word < Kind.WORD_COUNT; word++) {
                if (keywords[word] == code) {
                    return Kind.WARD + word;
                }
            }
            return Kind.NAME;
        }

        private int cutNumber(int token) {
            long number = 0;
            int from = at;
            for (; at < length && isDigit(signAt(at)); at++) {
                number = number * 10 + signAt(at) - '0';
            }
            value[token] = number;
            return at - from > LONGEST_NUMBER ? Kind.BAD : Kind.NUMBER;
        }

        private int cutSymbol() {
            int sign = signAt(at);
            if (SYMBOLS.indexOf((char) sign) < 0) {
                return Kind.BAD;
            }
            at++;
            if ((sign == '<' || sign == '>') && signAt(at) == '=') {
                at++;
                return sign == '<' ? Kind.AT_MOST : Kind.AT_LEAST;
            }
            return sign;
        }

        /** The byte at a position, 0 to 255, or 0 behind the end. */
        private int signAt(int position) {
            return position >= 0 && position < length ? tape[position] & 255 : 0;
        }

        private static boolean isLetter(int sign) {
            return sign >= 'a' && sign <= 'z';
        }

        private static boolean isDigit(int sign) {
            return sign >= '0' && sign <= '9';
        }

        /** 1 to 36, never 0, so that words of different lengths differ as well. */
        private static int digitOf(char sign) {
            return isLetter(sign) ? sign - 'a' + 1 : sign - '0' + 27;
        }
    }

    /**
     * Tells whether the tokens are a list, and if not, which one is the first that is wrong. On its way
     * it gives each token its role, and writes the steps of the tests, with tokens in the place of
     * what they mean: names are looked at by the Checker only when the whole list is known to be one.
     */
    private static final class Grammar {
        final int[] role = new int[MOST_TOKENS + 1];
        // Behind the word ban: the first step of its test.
        final int[] firstStep = new int[MOST_TOKENS + 1];
        int at;
        private final Tokens tokens;
        private Plan plan;

        Grammar(Tokens tokens, Plan plan) {
            this.tokens = tokens;
            this.plan = plan;
        }

        boolean isList(Plan draft) {
            plan = draft;
            draft.stepCount = 0;
            at = 0;
            // A line has three tokens or more, so the bound is never met.
            for (int lines = 0; lines < MOST_TOKENS; lines++) {
                if (here() == Kind.END) {
                    return true;
                }
                if (!isLine() || !take(';')) {
                    return false;
                }
            }
            return here() == Kind.END;
        }

        private int here() {
            return at >= 0 && at < tokens.kind.length ? tokens.kind[at] : Kind.END;
        }

        private boolean take(int kind) {
            return take(kind, Role.FREE);
        }

        private boolean take(int kind, int newRole) {
            // The last place is kept for END or BAD, so that at stays inside the rows.
            if (at < 0 || at >= MOST_TOKENS || tokens.kind[at] != kind) {
                return false;
            }
            role[at] = newRole;
            at++;
            return true;
        }

        private boolean write(int step) {
            return write(step, 0);
        }

        private boolean write(int step, int token) {
            // Each step comes from a token of its own or from the end of a line, so they always fit.
            if (plan.stepCount < 0 || plan.stepCount >= plan.step.length) {
                return false;
            }
            plan.step[plan.stepCount] = step;
            plan.argument[plan.stepCount] = token;
            plan.stepCount++;
            return true;
        }

        private boolean isLine() {
            switch (here()) {
                case Kind.WARD:
                    return take(Kind.WARD) && take(Kind.NAME, Role.NEW_WARD)
                        && take(Kind.CAP) && take(Kind.NUMBER, Role.CAP);
                case Kind.PROJECT:
                    return take(Kind.PROJECT) && take(Kind.NAME, Role.NEW_PROJECT)
                        && take(Kind.COST) && take(Kind.NUMBER, Role.COST)
                        && take(Kind.IN) && take(Kind.NAME, Role.HOME_WARD)
                        && take(Kind.GROWS) && take(Kind.NUMBER, Role.GROWS);
                case Kind.VOTER:
                    return take(Kind.VOTER) && take(Kind.NAME, Role.NEW_VOTER)
                        && (!take(Kind.LIKES) || isRowOfLiked());
                case Kind.BUDGET:
                    return take(Kind.BUDGET) && take(Kind.NUMBER, Role.BUDGET);
                case Kind.BAN:
                    return isBan();
                default:
                    return false;
            }
        }

        private boolean isRowOfLiked() {
            if (!take(Kind.NAME, Role.LIKED)) {
                return false;
            }
            for (int i = 0; i < MOST_TOKENS && take(Kind.NAME, Role.LIKED); i++) {
                // take goes on by itself
            }
            return true;
        }

        private boolean isBan() {
            if (at >= 0 && at < firstStep.length) {
                firstStep[at] = plan.stepCount;
            }
            return take(Kind.BAN, Role.NEW_BAN) && take(Kind.NAME, Role.BANNED) && take(Kind.WHEN)
                && isTest(0) && write(Step.STOP);
        }

        private boolean isTest(int depth) {
            if (!isBoth(depth)) {
                return false;
            }
            for (int i = 0; i < MOST_TOKENS && take(Kind.OR); i++) {
                if (!isBoth(depth) || !write(Step.OR)) {
                    return false;
                }
            }
            return true;
        }

        private boolean isBoth(int depth) {
            if (!isSingle(depth)) {
                return false;
            }
            for (int i = 0; i < MOST_TOKENS && take(Kind.AND); i++) {
                if (!isSingle(depth) || !write(Step.AND)) {
                    return false;
                }
            }
            return true;
        }

        private boolean isSingle(int depth) {
            switch (here()) {
                case Kind.NOT:
                    return depth < MOST_DEPTH && take(Kind.NOT) && isSingle(depth + 1) && write(Step.NOT);
                case '[':
                    return depth < MOST_DEPTH && take('[') && isTest(depth + 1) && take(']');
                case Kind.BUILT:
                    return take(Kind.BUILT) && isNamed(Role.SOME_PROJECT, Step.BUILT);
                case Kind.LIKES:
                    return take(Kind.LIKES) && isNamed(Role.SOME_VOTER, Step.PUSH)
                        && isNamed(Role.SOME_PROJECT, Step.PUSH) && write(Step.LIKES);
                default:
                    if (!isSum(depth)) {
                        return false;
                    }
                    int step = comparisonHere();
                    return step != Step.STOP && take(here()) && isSum(depth) && write(step);
            }
        }

        /** A name, and the step that takes what it means. */
        private boolean isNamed(int newRole, int step) {
            int token = at;
            return take(Kind.NAME, newRole) && write(step, token);
        }

        private int comparisonHere() {
            switch (here()) {
                case '<': return Step.LESS;
                case '>': return Step.MORE;
                case '=': return Step.EQUAL;
                case Kind.AT_MOST: return Step.AT_MOST;
                case Kind.AT_LEAST: return Step.AT_LEAST;
                default: return Step.STOP;
            }
        }

        private boolean isSum(int depth) {
            if (!isProduct(depth)) {
                return false;
            }
            for (int i = 0; i < MOST_TOKENS; i++) {
                int step = here() == '+' ? Step.ADD : Step.SUBTRACT;
                if (!take('+') && !take('-')) {
                    return true;
                }
                if (!isProduct(depth) || !write(step)) {
                    return false;
                }
            }
            return true;
        }

        private boolean isProduct(int depth) {
            if (!isValue(depth)) {
                return false;
            }
            for (int i = 0; i < MOST_TOKENS; i++) {
                int step = here() == '*' ? Step.MULTIPLY : Step.DIVIDE;
                if (!take('*') && !take('/')) {
                    return true;
                }
                if (!isValue(depth) || !write(step)) {
                    return false;
                }
            }
            return true;
        }

        private boolean isValue(int depth) {
            int token = at;
            switch (here()) {
                case Kind.NUMBER:
                    return take(Kind.NUMBER, Role.VALUE) && write(Step.PUSH, token);
                case Kind.YEAR:
                    return take(Kind.YEAR) && write(Step.YEAR);
                case Kind.POT:
                    return take(Kind.POT) && write(Step.POT);
                case Kind.COST:
                    return take(Kind.COST) && isNamed(Role.SOME_PROJECT, Step.COST);
                case Kind.FANS:
                    return take(Kind.FANS) && isNamed(Role.SOME_PROJECT, Step.FANS);
                case Kind.PURSE:
                    return take(Kind.PURSE) && isNamed(Role.SOME_VOTER, Step.PURSE);
                case Kind.PLEASED:
                    return take(Kind.PLEASED) && isNamed(Role.SOME_VOTER, Step.PLEASED);
                case '-':
                    return depth < MOST_DEPTH && take('-') && isValue(depth + 1) && write(Step.NEGATE);
                case '(':
                    return depth < MOST_DEPTH && take('(') && isSum(depth + 1) && take(')');
                case Kind.MIN:
                    return take(Kind.MIN) && isPair(depth) && write(Step.MIN);
                case Kind.MAX:
                    return take(Kind.MAX) && isPair(depth) && write(Step.MAX);
                default:
                    return false;
            }
        }

        private boolean isPair(int depth) {
            return depth < MOST_DEPTH && take('(') && isSum(depth + 1) && take(',')
                && isSum(depth + 1) && take(')');
        }
    }

    /** Looks at keywords, names and numbers of a list from left to right, and fills a plan with them. */
    private static final class Checker {
        int at;
        private final Tokens tokens;
        private final Grammar grammar;
        private final long[] wardNames = new long[MOST_WARDS];
        private final long[] projectNames = new long[MOST_PROJECTS];
        private final long[] voterNames = new long[MOST_VOTERS];
        private final int[] meaning = new int[MOST_TOKENS + 1];

        Checker(Tokens tokens, Grammar grammar) {
            this.tokens = tokens;
            this.grammar = grammar;
        }

        /** Returns the first error, 2 to 5, at its token, or 0. */
        int fill(Plan draft) {
            draft.clear();
            for (at = 0; at < grammar.at && at < MOST_TOKENS; at++) {
                int error = errorHere(draft);
                if (error != 0) {
                    return error;
                }
            }
            setArguments(draft);
            return 0;
        }

        private void setArguments(Plan draft) {
            for (int i = 0; i < draft.stepCount && i < draft.argument.length; i++) {
                int token = draft.argument[i];
                draft.argument[i] = token >= 0 && token < meaning.length ? meaning[token] : 0;
            }
        }

        private int errorHere(Plan draft) {
            meaning[at] = 0;
            long value = tokens.value[at];
            switch (grammar.role[at]) {
                case Role.NEW_WARD: return tellWard(draft, value);
                case Role.NEW_PROJECT: return tellProject(draft, value);
                case Role.NEW_VOTER: return tellVoter(draft, value);
                case Role.NEW_BAN: return tellBan(draft);
                case Role.CAP: return putNumber(draft.cap, draft.wards - 1, 0, MOST_CAP);
                case Role.COST: return putNumber(draft.cost, draft.projects - 1, 1, MOST_FIRST_COST);
                case Role.GROWS: return putNumber(draft.grows, draft.projects - 1, 0, MOST_GROWS);
                case Role.BUDGET: return tellBudget(draft, value);
                case Role.HOME_WARD:
                    return putNamed(draft.wardOf, draft.projects - 1, find(wardNames, draft.wards, value));
                case Role.LIKED: return tellLiked(draft, find(projectNames, draft.projects, value));
                case Role.BANNED:
                    return putNamed(draft.banned, draft.bans - 1, find(projectNames, draft.projects, value));
                case Role.SOME_PROJECT:
                    return putNamed(meaning, at, find(projectNames, draft.projects, value));
                case Role.SOME_VOTER:
                    return putNamed(meaning, at, find(voterNames, draft.voters, value));
                case Role.VALUE: return putNumber(meaning, at, 0, MOST_OF_A_NUMBER);
                default: return 0;
            }
        }

        private int tellWard(Plan draft, long name) {
            int error = errorOfNew(wardNames, draft.wards, name);
            if (error == 0) {
                wardNames[draft.wards] = name;
                draft.wards++;
            }
            return error;
        }

        private int tellProject(Plan draft, long name) {
            int error = errorOfNew(projectNames, draft.projects, name);
            if (error == 0) {
                projectNames[draft.projects] = name;
                draft.fans[draft.projects] = 0;
                draft.projects++;
            }
            return error;
        }

        private int tellVoter(Plan draft, long name) {
            int error = errorOfNew(voterNames, draft.voters, name);
            if (error == 0) {
                voterNames[draft.voters] = name;
                draft.voters++;
            }
            return error;
        }

        private static int errorOfNew(long[] names, int size, long name) {
            if (find(names, size, name) != NONE) {
                return 2;
            }
            return size >= names.length ? 4 : 0;
        }

        private int tellBan(Plan draft) {
            if (draft.bans >= MOST_BANS) {
                return 4;
            }
            draft.banStart[draft.bans] = grammar.firstStep[at];
            draft.bans++;
            return 0;
        }

        private static int tellBudget(Plan draft, long budget) {
            if (budget > MOST_COINS) {
                return 5;
            }
            draft.budget = (int) budget;
            return 0;
        }

        private static int tellLiked(Plan draft, int project) {
            int voter = draft.voters - 1;
            if (!draft.hasProject(project) || !draft.hasVoter(voter)) {
                return 3;
            }
            // A voter is told in one line only, so whoever is a fan already is one of the same line.
            if ((draft.fans[project] >> voter & 1) != 0) {
                return 5;
            }
            draft.fans[project] |= 1 << voter;
            return 0;
        }

        private int putNumber(int[] row, int index, int least, int most) {
            long number = tokens.value[at];
            if (number < least || number > most) {
                return 5;
            }
            if (index >= 0 && index < row.length) {
                row[index] = (int) number;
            }
            return 0;
        }

        private static int putNamed(int[] row, int index, int named) {
            if (named == NONE) {
                return 3;
            }
            if (index >= 0 && index < row.length) {
                row[index] = named;
            }
            return 0;
        }

        private static int find(long[] names, int size, long name) {
            for (int i = 0; i < size && i < names.length; i++) {
                if (names[i] == name) {
                    return i;
                }
            }
            return NONE;
        }
    }

    /** What a list tells. It stays as it is until the next list. */
    private static final class Plan {
        int wards;
        int projects;
        int voters;
        int bans;
        int budget = FIRST_BUDGET;
        int stepCount;
        final int[] cap = new int[MOST_WARDS];
        final int[] wardOf = new int[MOST_PROJECTS];
        final int[] cost = new int[MOST_PROJECTS];
        final int[] grows = new int[MOST_PROJECTS];
        // The bit of a voter is 1 in the fans of the projects that this one likes.
        final int[] fans = new int[MOST_PROJECTS];
        final int[] banned = new int[MOST_BANS];
        final int[] banStart = new int[MOST_BANS];
        final int[] step = new int[MOST_TOKENS];
        final int[] argument = new int[MOST_TOKENS];

        /** Makes the plan ready to be filled; the steps of its tests stand already. */
        void clear() {
            wards = 0;
            projects = 0;
            voters = 0;
            bans = 0;
            budget = FIRST_BUDGET;
        }

        boolean hasWard(int ward) {
            return ward >= 0 && ward < wards;
        }

        boolean hasProject(int project) {
            return project >= 0 && project < projects;
        }

        boolean hasVoter(int voter) {
            return voter >= 0 && voter < voters;
        }
    }

    /** How things stand in a year, and how years go. */
    private static final class Parish {
        int year;
        int budget;
        int leftOut = NONE;
        final int[] purse = new int[MOST_VOTERS];
        final int[] builtIn = new int[MOST_PROJECTS];
        private Plan plan;
        private int pot;
        private int paidInAll;
        private final int[] paid = new int[MOST_VOTERS];
        private final int[] cost = new int[MOST_PROJECTS];
        private final int[] fans = new int[MOST_PROJECTS];
        private final int[] bought = new int[MOST_PROJECTS];
        private final int[] builtThisYear = new int[MOST_WARDS];
        private final int[] stack = new int[MOST_TOKENS];
        private int stackSize;

        Parish(Plan plan) {
            this.plan = plan;
            budget = plan.budget;
        }

        /** All begins anew by a plan, but the year. */
        void begin(Plan newPlan) {
            plan = newPlan;
            budget = newPlan.budget;
            pot = 0;
            paidInAll = 0;
            for (int voter = 0; voter < MOST_VOTERS; voter++) {
                purse[voter] = 0;
                paid[voter] = 0;
            }
            for (int project = 0; project < MOST_PROJECTS; project++) {
                cost[project] = newPlan.cost[project];
                fans[project] = newPlan.fans[project];
                builtIn[project] = NONE;
                bought[project] = 0;
            }
        }

        void copy(Parish other) {
            plan = other.plan;
            year = other.year;
            budget = other.budget;
            pot = other.pot;
            paidInAll = other.paidInAll;
            leftOut = NONE;
            for (int voter = 0; voter < MOST_VOTERS; voter++) {
                purse[voter] = other.purse[voter];
                paid[voter] = other.paid[voter];
            }
            for (int project = 0; project < MOST_PROJECTS; project++) {
                cost[project] = other.cost[project];
                fans[project] = other.fans[project];
                builtIn[project] = other.builtIn[project];
                bought[project] = other.bought[project];
            }
        }

        // ---- what is told

        /** What count() tells by 6 to 10. */
        int total(int what) {
            switch (what) {
                case 6: return pot;
                case 7: return purses();
                case 8: return builtCount();
                case 9: return boughtCount();
                default: return paidInAll;
            }
        }

        private int purses() {
            int coins = 0;
            for (int voter = 0; voter < plan.voters; voter++) {
                coins += purse[voter];
            }
            return coins;
        }

        int builtCount() {
            int built = 0;
            for (int project = 0; project < plan.projects; project++) {
                built += isOpen(project) ? 0 : 1;
            }
            return built;
        }

        private int boughtCount() {
            int count = 0;
            for (int project = 0; project < plan.projects; project++) {
                count += bought[project];
            }
            return count;
        }

        int ofWard(int ward, int what) {
            if (what == 0) {
                return plan.cap[ward];
            }
            int sum = 0;
            for (int project = 0; project < plan.projects; project++) {
                if (plan.wardOf[project] == ward && (what == 1 || !isOpen(project))) {
                    sum += what == 3 ? cost[project] : 1;
                }
            }
            return sum;
        }

        int ofProject(int project, int what) {
            switch (what) {
                case 0: return cost[project];
                case 1: return plan.wardOf[project];
                case 2: return plan.grows[project];
                case 3: return fanCount(project);
                case 4: return builtIn[project];
                case 5: return bought[project];
                case 6: return isBanned(project) ? 1 : 0;
                default: return coinsOfFans(project);
            }
        }

        int ofVoter(int voter, int what) {
            switch (what) {
                case 0: return purse[voter];
                case 1: return likedCount(voter);
                case 2: return pleasedOf(voter);
                default: return paid[voter];
            }
        }

        private int likedCount(int voter) {
            int liked = 0;
            for (int project = 0; project < plan.projects; project++) {
                liked += isFan(voter, project) ? 1 : 0;
            }
            return liked;
        }

        int pleasedOf(int voter) {
            int pleased = 0;
            for (int project = 0; project < plan.projects; project++) {
                pleased += builtIn[project] != NONE ? fans[project] >> voter & 1 : 0;
            }
            return pleased;
        }

        boolean isOpen(int project) {
            return builtIn[project] == NONE;
        }

        boolean isFan(int voter, int project) {
            return (fans[project] >> voter & 1) != 0;
        }

        private int fanCount(int project) {
            return Integer.bitCount(fans[project]);
        }

        private int coinsOfFans(int project) {
            int coins = 0;
            for (int voter = 0; voter < plan.voters; voter++) {
                coins += isFan(voter, project) ? purse[voter] : 0;
            }
            return coins;
        }

        /**
         * The share of a project, or NONE. The cost is shared among the fans; whoever holds less
         * pays the whole purse, and the rest is shared among the others anew, until all of them
         * hold enough.
         */
        int shareOf(int project) {
            if (coinsOfFans(project) < cost[project]) {
                return NONE;
            }
            int share = 0;
            // Each round but the first and the last finds one more fan who holds less.
            for (int round = 0; round <= MOST_VOTERS + 1; round++) {
                int rest = cost[project];
                int others = 0;
                for (int voter = 0; voter < plan.voters; voter++) {
                    if (isFan(voter, project)) {
                        if (purse[voter] < share) {
                            rest -= purse[voter];
                        } else {
                            others++;
                        }
                    }
                }
                if (others == 0) {
                    return NONE;
                }
                int needed = (rest + others - 1) / others;
                if (needed == share) {
                    return share;
                }
                share = needed;
            }
            return share;
        }

        // ---- by hand

        void setFan(int voter, int project, boolean does) {
            if (does) {
                fans[project] |= 1 << voter;
            } else {
                fans[project] &= ~(1 << voter);
            }
        }

        void putIntoPurse(int voter, int coins) {
            purse[voter] = Math.min(MOST_COINS, purse[voter] + coins);
        }

        void reopen(int project) {
            builtIn[project] = NONE;
            bought[project] = 0;
        }

        // ---- years

        void runYears(int years) {
            for (int i = 0; i < years; i++) {
                collect();
                buyFromPurses();
                buildFromPot();
                grow();
                year++;
            }
        }

        /** Step 1: the budget comes in. */
        void collect() {
            for (int ward = 0; ward < MOST_WARDS; ward++) {
                builtThisYear[ward] = 0;
            }
            int rest = budget;
            if (plan.voters > 0) {
                int each = budget / plan.voters;
                for (int voter = 0; voter < plan.voters; voter++) {
                    putIntoPurse(voter, each);
                }
                rest = budget % plan.voters;
            }
            pot = Math.min(MOST_COINS, pot + rest);
        }

        /** Step 2. */
        private void buyFromPurses() {
            for (int i = 0; i < MOST_PROJECTS; i++) {
                int project = bestToBuy();
                if (project == NONE) {
                    return;
                }
                buy(project, shareOf(project));
            }
        }

        int bestToBuy() {
            int best = NONE;
            int bestShare = 0;
            for (int project = 0; project < plan.projects; project++) {
                if (hasRoom(project)) {
                    int share = shareOf(project);
                    boolean better = share != NONE && (best == NONE || share < bestShare
                        || share == bestShare && fanCount(project) > fanCount(best));
                    if (better && !isBanned(project)) {
                        best = project;
                        bestShare = share;
                    }
                }
            }
            return best;
        }

        /** Whether a project can be chosen, as far as bans let it. */
        private boolean hasRoom(int project) {
            int ward = plan.wardOf[project];
            return isOpen(project) && project != leftOut && builtThisYear[ward] < plan.cap[ward];
        }

        private void buy(int project, int share) {
            int tooMuch = -cost[project];
            for (int voter = 0; voter < plan.voters; voter++) {
                if (isFan(voter, project)) {
                    tooMuch += Math.min(share, purse[voter]);
                }
            }
            for (int voter = 0; voter < plan.voters; voter++) {
                if (isFan(voter, project)) {
                    int pays = Math.min(share, purse[voter]);
                    if (pays == share && tooMuch > 0) {
                        pays--;
                        tooMuch--;
                    }
                    purse[voter] -= pays;
                    paid[voter] += pays;
                }
            }
            bought[project] = 1;
            build(project);
        }

        private void build(int project) {
            builtIn[project] = year;
            builtThisYear[plan.wardOf[project]]++;
            paidInAll += cost[project];
        }

        /** Step 3. */
        private void buildFromPot() {
            for (int i = 0; i < MOST_PROJECTS; i++) {
                int project = bestForPot();
                if (project == NONE) {
                    return;
                }
                pot -= cost[project];
                build(project);
            }
        }

        private int bestForPot() {
            int best = NONE;
            for (int project = 0; project < plan.projects; project++) {
                if (hasRoom(project) && cost[project] <= pot
                    && (best == NONE || isBetterForPot(project, best)) && !isBanned(project)) {
                    best = project;
                }
            }
            return best;
        }

        private boolean isBetterForPot(int project, int other) {
            if (fanCount(project) != fanCount(other)) {
                return fanCount(project) > fanCount(other);
            }
            return cost[project] < cost[other];
        }

        /** Step 4, but for the year. */
        private void grow() {
            for (int project = 0; project < plan.projects; project++) {
                if (isOpen(project)) {
                    int more = cost[project] * plan.grows[project] / 100;
                    cost[project] = Math.min(MOST_COINS, cost[project] + more);
                }
            }
        }

        // ---- bans

        private boolean isBanned(int project) {
            for (int ban = 0; ban < plan.bans; ban++) {
                if (plan.banned[ban] == project && holds(plan.banStart[ban])) {
                    return true;
                }
            }
            return false;
        }

        /** Whether the test that begins at a step holds now. */
        private boolean holds(int first) {
            stackSize = 0;
            for (int i = first; i >= 0 && i < plan.stepCount; i++) {
                int step = plan.step[i];
                if (step == Step.STOP) {
                    break;
                }
                if (step == Step.NOT) {
                    push(1 - pop());
                } else if (step == Step.NEGATE) {
                    push(-pop());
                } else if (step < Step.NOT) {
                    push(single(step, plan.argument[i]));
                } else {
                    int right = pop();
                    int left = pop();
                    push(step < Step.LESS ? reckon(step, left, right) : compare(step, left, right));
                }
            }
            return pop() != 0;
        }

        private void push(int value) {
            if (stackSize < stack.length) {
                stack[stackSize] = value;
                stackSize++;
            }
        }

        private int pop() {
            if (stackSize == 0) {
                return 0;
            }
            stackSize--;
            return stack[stackSize];
        }

        private int single(int step, int argument) {
            switch (step) {
                case Step.YEAR: return year;
                case Step.POT: return pot;
                case Step.COST: return plan.hasProject(argument) ? cost[argument] : 0;
                case Step.FANS: return plan.hasProject(argument) ? Integer.bitCount(fans[argument]) : 0;
                case Step.PURSE: return plan.hasVoter(argument) ? purse[argument] : 0;
                case Step.PLEASED: return plan.hasVoter(argument) ? pleasedOf(argument) : 0;
                case Step.BUILT: return plan.hasProject(argument) && !isOpen(argument) ? 1 : 0;
                default: return argument;
            }
        }

        private int reckon(int step, int left, int right) {
            switch (step) {
                case Step.LIKES: return plan.hasProject(right) && isFan(left, right) ? 1 : 0;
                case Step.ADD: return left + right;
                case Step.SUBTRACT: return left - right;
                case Step.MULTIPLY: return left * right;
                case Step.DIVIDE: return right == 0 ? 0 : left / right;
                case Step.MIN: return Math.min(left, right);
                default: return Math.max(left, right);
            }
        }

        private static int compare(int step, int left, int right) {
            boolean is;
            switch (step) {
                case Step.LESS: is = left < right; break;
                case Step.MORE: is = left > right; break;
                case Step.EQUAL: is = left == right; break;
                case Step.AT_MOST: is = left <= right; break;
                case Step.AT_LEAST: is = left >= right; break;
                case Step.AND: is = (left & right) != 0; break;
                default: is = (left | right) != 0; break;
            }
            return is ? 1 : 0;
        }
    }
}
