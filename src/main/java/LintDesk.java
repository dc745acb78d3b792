/** A linter for a small language; what each call promises stands in the project's document. */
public final class LintDesk {
    private static final int MOST_LETTERS = 160;
    private static final int MOST_TOKENS = 60;
    private static final int MOST_SCOPES = MOST_TOKENS + 1;
    private static final int MOST_DEEP = 12;
    private static final int MOST_PARAMETERS = 4;
    private static final int MOST_GIVEN = 8;
    private static final int MOST_ROUNDS = 4;
    private static final int OCTETS = 8;

    private static final int FREE = 0;
    private static final int UNUSED = 1;
    private static final int CONSTANT = 2;
    private static final int EARLY = 3;
    private static final int SHADOW = 4;
    private static final int DEAD = 5;
    private static final int EQUAL = 6;
    private static final int FIXED = 7;
    private static final int EMPTY = 8;
    private static final int SPARE = 9;
    private static final int RULES = 10;
    private static final int ALL_RULES = (1 << RULES) - 1;

    private static final int KIND_LET = 0;
    private static final int KIND_CONST = 1;
    private static final int KIND_VAR = 2;
    private static final int KIND_FN = 3;
    private static final int KIND_PARAMETER = 4;

    private static final Token[] TOKENS = Token.values();

    private final Letters written;
    private final Settings settings;
    private Reading source;
    private Reading spare;
    private int wrongPlace;
    private int rounds;

    public LintDesk() {
        written = new Letters();
        settings = new Settings();
        source = newReading();
        spare = newReading();
        wrongPlace = source.study();
    }

    public int write(long w) throws IllegalArgumentException, IndexOutOfBoundsException {
        int size = octetsIn(w);
        if (size == 0 || !areLetters(w, size)) {
            throw new IllegalArgumentException("no LETTERS");
        }
        if (written.size + size > MOST_LETTERS) {
            throw new IndexOutOfBoundsException("more than 160 LETTERS");
        }
        for (int k = 0; k < size; k++) {
            written.add((char) octet(w, k));
        }
        return written.size;
    }

    public int read() throws IllegalArgumentException {
        spare.letters.clear();
        spare.letters.addPart(written, 0, written.size);
        written.clear();
        wrongPlace = spare.study();
        if (wrongPlace >= 0) {
            throw new IllegalArgumentException("no PROGRAM");
        }
        takeSpare();
        return settings.findingsIn(source);
    }

    public int wrong() {
        return wrongPlace;
    }

    public boolean rule(int n, boolean on) throws IllegalArgumentException {
        if (n < 0 || n >= RULES) {
            throw new IllegalArgumentException("no RULE");
        }
        boolean was = settings.isOn(n);
        settings.turn(n, on);
        return was;
    }

    public int give(long w)
            throws IllegalArgumentException, IllegalStateException, IndexOutOfBoundsException {
        int size = octetsIn(w);
        long name = firstOctets(w, size);
        if (!isWord(w, size) || keywordOf(name) != Token.NAME) {
            throw new IllegalArgumentException("no NAME");
        }
        if (settings.isGiven(name)) {
            throw new IllegalStateException("GIVEN already");
        }
        if (settings.givenSize >= MOST_GIVEN) {
            throw new IndexOutOfBoundsException("8 are GIVEN");
        }
        settings.addGiven(name);
        return settings.givenSize;
    }

    public int found(int k) throws IndexOutOfBoundsException {
        int finding = settings.findingOf(source, k);
        if (finding < 0) {
            throw new IndexOutOfBoundsException("no such FINDING");
        }
        return finding % RULES;
    }

    public int place(int k) throws IndexOutOfBoundsException {
        int finding = settings.findingOf(source, k);
        if (finding < 0) {
            throw new IndexOutOfBoundsException("no such FINDING");
        }
        return source.tokens.startOf(finding / RULES);
    }

    public int mend() {
        int mended = 0;
        rounds = 0;
        for (int round = 0; round < MOST_ROUNDS; round++) {
            int inRound = settings.mendablesIn(source);
            if (inRound == 0 || mendedSize() > MOST_LETTERS) {
                break;
            }
            writeMended();
            // What is mended stays a PROGRAM: this only keeps the SOURCE whole if that were ever untrue.
            if (spare.study() >= 0) {
                break;
            }
            takeSpare();
            rounds++;
            mended += inRound;
        }
        return mended;
    }

    public int letter(int k) throws IndexOutOfBoundsException {
        if (k < 0 || k >= source.letters.size) {
            throw new IndexOutOfBoundsException("no such LETTER");
        }
        return source.letters.at(k);
    }

    public int declared(int k, int what) throws IndexOutOfBoundsException, IllegalArgumentException {
        Things things = source.things;
        if (k < 0 || k >= things.size) {
            throw new IndexOutOfBoundsException("no such thing");
        }
        switch (what) {
            case 0: return source.tokens.startOf(things.names[k]);
            case 1: return things.kinds[k];
            case 2: return things.reads[k];
            case 3: return things.writes[k];
            case 4: return things.times[k];
            case 5: return source.scopes.levelOf(things.scopes[k]);
            default: throw new IllegalArgumentException("nothing to tell");
        }
    }

    public int count(int what) throws IllegalArgumentException {
        switch (what) {
            case 0: return source.letters.size;
            case 1: return source.tokens.size;
            case 2: return settings.findingsIn(source);
            case 3: return source.things.size;
            case 4: return source.scopes.size;
            case 5: return source.binder.freeUses;
            case 6: return rounds;
            case 7: return settings.givenSize;
            case 8: return written.size;
            case 9: return settings.excusedIn(source);
            default: throw new IllegalArgumentException("nothing to count");
        }
    }

    private static Reading newReading() {
        Letters letters = new Letters();
        Tokens tokens = new Tokens(letters);
        Scopes scopes = new Scopes();
        Things things = new Things();
        Marks marks = new Marks();
        Binder binder = new Binder(tokens, scopes, things, marks);
        Parser parser = new Parser(tokens, scopes, marks, binder);
        return new Reading(letters, tokens, scopes, things, marks, binder, parser);
    }

    private void takeSpare() {
        Reading former = source;
        source = spare;
        spare = former;
    }

    /** How many LETTERS there would be behind a ROUND. */
    private int mendedSize() {
        int size = source.letters.size;
        for (int token = 0; token < source.tokens.size; token++) {
            int rule = settings.mendableAt(source, token);
            if (rule >= 0) {
                size += mendedText(rule).length() - mendedTo(token, rule) + mendedFrom(token, rule);
            }
        }
        return size;
    }

    private void writeMended() {
        Letters to = spare.letters;
        int copied = 0;
        to.clear();
        for (int token = 0; token < source.tokens.size; token++) {
            int rule = settings.mendableAt(source, token);
            if (rule >= 0) {
                to.addPart(source.letters, copied, mendedFrom(token, rule));
                to.addText(mendedText(rule));
                copied = mendedTo(token, rule);
            }
        }
        to.addPart(source.letters, copied, source.letters.size);
    }

    private static String mendedText(int rule) {
        if (rule == EQUAL) {
            return "=";
        }
        return rule == FIXED ? "const" : "";
    }

    private int mendedFrom(int token, int rule) {
        return rule == EQUAL ? source.tokens.endOf(token) : source.tokens.startOf(token);
    }

    private int mendedTo(int token, int rule) {
        // The "}" of an empty BLOCK is the TOKEN next to its "{".
        return source.tokens.endOf(rule == EMPTY ? token + 1 : token);
    }

    private static int octet(long w, int k) {
        return (int) (w >>> (8 * k)) & 255;
    }

    private static int octetsIn(long w) {
        int size = 0;
        while (size < OCTETS && octet(w, size) != 0) {
            size++;
        }
        return size;
    }

    private static long firstOctets(long w, int size) {
        return size < OCTETS ? w & ((1L << (8 * size)) - 1) : w;
    }

    private static boolean areLetters(long w, int size) {
        for (int k = 0; k < size; k++) {
            int octet = octet(w, k);
            if (octet != '\n' && (octet < 32 || octet > 126)) {
                return false;
            }
        }
        return true;
    }

    private static boolean isWord(long w, int size) {
        if (!isSmall(octet(w, 0))) {
            return false;
        }
        for (int k = 1; k < size; k++) {
            if (!isSmall(octet(w, k)) && !isDigit(octet(w, k))) {
                return false;
            }
        }
        return true;
    }

    private static boolean isSmall(int letter) {
        return letter >= 'a' && letter <= 'z';
    }

    private static boolean isDigit(int letter) {
        return letter >= '0' && letter <= '9';
    }

    private static boolean isBlank(int letter) {
        return letter == ' ' || letter == '\n';
    }

    /** The KEYWORD whose letters are the octets of word; NAME if there is none. */
    private static Token keywordOf(long word) {
        for (int k = 0; k < TOKENS.length; k++) {
            if (TOKENS[k].keyword && TOKENS[k].octets == word) {
                return TOKENS[k];
            }
        }
        return Token.NAME;
    }

    /** What a TOKEN is. A longer sign stands before those that begin it: the first that fits is taken. */
    private enum Token {
        LET("let"), CONST("const"), VAR("var"), FN("fn"),
        IF("if"), ELSE("else"), WHILE("while"), RETURN("return"),
        SAME("==="), LIKE("=="), BECOMES("="), PLUS("+"), MINUS("-"), TIMES("*"), LESS("<"), NOT("!"),
        OPEN("("), CLOSE(")"), BEGIN("{"), END("}"), STOP(";"), COMMA(","), AT("@"),
        NAME(""), NUMBER(""), TEXT(""),
        /** The end of the text. */
        FINISH(""),
        /** What can stand nowhere. */
        BAD("");

        private final String text;
        private final boolean keyword;
        private final boolean sign;
        private final long octets;

        Token(String text) {
            this.text = text;
            keyword = !text.isEmpty() && text.charAt(0) >= 'a' && text.charAt(0) <= 'z';
            sign = !text.isEmpty() && !keyword;
            long sum = 0;
            for (int k = text.length() - 1; k >= 0; k--) {
                sum = sum << 8 | text.charAt(k);
            }
            octets = sum;
        }

        boolean joinsParts() {
            return this == SAME || this == LIKE || this == PLUS || this == MINUS
                    || this == TIMES || this == LESS;
        }
    }

    /** A text of up to 160 LETTERS. */
    private static final class Letters {
        private final char[] row = new char[MOST_LETTERS];
        private int size;

        /** 0, which is no LETTER, where there is none: it ends whatever is looked through. */
        char at(int k) {
            return k >= 0 && k < size ? row[k] : 0;
        }

        void clear() {
            size = 0;
        }

        void add(char letter) {
            if (size < MOST_LETTERS) {
                row[size] = letter;
                size++;
            }
        }

        void addPart(Letters from, int start, int end) {
            for (int k = start; k < end; k++) {
                add(from.at(k));
            }
        }

        void addText(String text) {
            for (int k = 0; k < text.length(); k++) {
                add(text.charAt(k));
            }
        }

        int behindBlanks(int start) {
            int k = start;
            while (k < size && isBlank(at(k))) {
                k++;
            }
            return k;
        }

        int behindWord(int start) {
            int k = start;
            while (k < size && (isSmall(at(k)) || isDigit(at(k)))) {
                k++;
            }
            return k;
        }

        int behindNumber(int start) {
            int k = start;
            while (k < size && isDigit(at(k))) {
                k++;
            }
            return k;
        }

        /** The start itself if the TEXT that begins there has no end. */
        int behindText(int start) {
            for (int k = start + 1; k < size && at(k) != '\n'; k++) {
                if (at(k) == '\'') {
                    return k + 1;
                }
            }
            return start;
        }

        boolean holds(String text, int start) {
            for (int k = 0; k < text.length(); k++) {
                if (at(start + k) != text.charAt(k)) {
                    return false;
                }
            }
            return true;
        }

        boolean samePart(int start, int other, int length) {
            for (int k = 0; k < length; k++) {
                if (at(start + k) != at(other + k)) {
                    return false;
                }
            }
            return true;
        }

        /** As octets, the first the lowest; 0 for more than a long can hold. */
        long octets(int start, int end) {
            if (end - start > OCTETS) {
                return 0;
            }
            long octets = 0;
            for (int k = end - 1; k >= start; k--) {
                octets = octets << 8 | at(k);
            }
            return octets;
        }
    }

    /** The TOKENS of a text, and behind them one that is FINISH, or BAD where they can not go on. */
    private static final class Tokens {
        private final Letters letters;
        private final Token[] kinds = new Token[MOST_TOKENS + 1];
        private final int[] starts = new int[MOST_TOKENS + 1];
        private final int[] ends = new int[MOST_TOKENS + 1];
        private final long[] octets = new long[MOST_TOKENS + 1];
        private final int[] words = new int[MOST_TOKENS + 1];
        private int size;

        Tokens(Letters letters) {
            this.letters = letters;
        }

        void scan() {
            size = 0;
            int at = letters.behindBlanks(0);
            for (int n = 0; n < MOST_TOKENS; n++) {
                scanOne(at);
                if (isClosing(kinds[size])) {
                    return;
                }
                at = letters.behindBlanks(ends[size]);
                size++;
            }
            put(at < letters.size ? Token.BAD : Token.FINISH, at, at);
        }

        private void scanOne(int at) {
            char first = letters.at(at);
            if (at >= letters.size) {
                put(Token.FINISH, at, at);
            } else if (isSmall(first)) {
                int end = letters.behindWord(at);
                put(keywordOf(letters.octets(at, end)), at, end);
                noteWord();
            } else if (isDigit(first)) {
                put(Token.NUMBER, at, letters.behindNumber(at));
            } else if (first == '\'') {
                int end = letters.behindText(at);
                put(end > at ? Token.TEXT : Token.BAD, at, end);
            } else {
                Token sign = signAt(at);
                put(sign, at, at + sign.text.length());
            }
        }

        private Token signAt(int at) {
            for (int k = 0; k < TOKENS.length; k++) {
                if (TOKENS[k].sign && letters.holds(TOKENS[k].text, at)) {
                    return TOKENS[k];
                }
            }
            return Token.BAD;
        }

        private static boolean isClosing(Token kind) {
            return kind == Token.FINISH || kind == Token.BAD;
        }

        private void put(Token kind, int start, int end) {
            if (size <= MOST_TOKENS) {
                kinds[size] = kind;
                starts[size] = start;
                ends[size] = end;
                octets[size] = 0;
                words[size] = size;
            }
        }

        /** So that a word is looked through once, and not for all that it is compared with. */
        private void noteWord() {
            int length = ends[size] - starts[size];
            octets[size] = letters.octets(starts[size], ends[size]);
            for (int former = 0; former < size; former++) {
                if (ends[former] - starts[former] == length
                        && letters.samePart(starts[former], starts[size], length)) {
                    words[size] = former;
                    return;
                }
            }
        }

        private boolean isThere(int token) {
            return token >= 0 && token <= size && token <= MOST_TOKENS;
        }

        Token kindOf(int token) {
            return token >= 0 && token <= size ? kinds[token] : Token.BAD;
        }

        int startOf(int token) {
            return isThere(token) ? starts[token] : letters.size;
        }

        int endOf(int token) {
            return isThere(token) ? ends[token] : letters.size;
        }

        /** The digit of a NUMBER that has just one; else -1. */
        int digitOf(int token) {
            boolean one = kindOf(token) == Token.NUMBER && endOf(token) - startOf(token) == 1;
            return one ? letters.at(startOf(token)) - '0' : -1;
        }

        /** The letters of a NAME of up to 8, as give() takes them; else 0. */
        long octetsOf(int token) {
            return isThere(token) ? octets[token] : 0;
        }

        /** The first TOKEN that is the same NAME. */
        int wordOf(int token) {
            return isThere(token) ? words[token] : token;
        }

        int behindExcuses(int start) {
            int token = start;
            while (token < size && kindOf(token) == Token.AT) {
                token += 2;
            }
            return token;
        }
    }

    /** The SCOPES, numbered as they begin; 0 is the PROGRAM. */
    private static final class Scopes {
        private final int[] around = new int[MOST_SCOPES];
        private final int[] homes = new int[MOST_SCOPES];
        private final int[] levels = new int[MOST_SCOPES];
        private int size;

        void clear() {
            around[0] = 0;
            homes[0] = 0;
            levels[0] = 0;
            size = 1;
        }

        /** Opens a SCOPE within another. */
        int open(int within, boolean fn) {
            if (size >= MOST_SCOPES || !isThere(within)) {
                return within;
            }
            int scope = size;
            around[scope] = within;
            homes[scope] = fn ? scope : homes[within];
            levels[scope] = levels[within] + 1;
            size++;
            return scope;
        }

        private boolean isThere(int scope) {
            return scope >= 0 && scope < size;
        }

        /** The PROGRAM is its own: look at its level before. */
        int aroundOf(int scope) {
            return isThere(scope) ? around[scope] : 0;
        }

        /** The SCOPE of the fn, or the PROGRAM, in which a SCOPE stands; its own if it is one. */
        int homeOf(int scope) {
            return isThere(scope) ? homes[scope] : 0;
        }

        int levelOf(int scope) {
            return isThere(scope) ? levels[scope] : 0;
        }
    }

    /** What is DECLARED, by the places of the first NAMES, which are numbers of TOKENS here. */
    private static final class Things {
        private final int[] names = new int[MOST_TOKENS];
        private final int[] words = new int[MOST_TOKENS];
        private final int[] kinds = new int[MOST_TOKENS];
        private final int[] scopes = new int[MOST_TOKENS];
        private final int[] reads = new int[MOST_TOKENS];
        private final int[] writes = new int[MOST_TOKENS];
        private final int[] times = new int[MOST_TOKENS];
        private final boolean[] valued = new boolean[MOST_TOKENS];
        private int size;

        void clear() {
            size = 0;
        }

        /** The thing of that NAME in just that SCOPE; else -1. */
        int inScope(int scope, int word) {
            for (int k = 0; k < size; k++) {
                if (scopes[k] == scope && words[k] == word) {
                    return k;
                }
            }
            return -1;
        }

        void add(int name, int word, int kind, int scope) {
            if (size < MOST_TOKENS) {
                names[size] = name;
                words[size] = word;
                kinds[size] = kind;
                scopes[size] = scope;
                reads[size] = 0;
                writes[size] = 0;
                times[size] = 1;
                valued[size] = false;
                size++;
            }
        }

        boolean isRead(int thing) {
            return reads[thing] > 0;
        }

        boolean isParameter(int thing) {
            return kinds[thing] == KIND_PARAMETER;
        }

        /** A PARAMETER's place in the row matters while a later one is needed. */
        boolean isHeldByLater(int thing) {
            for (int later = thing + 1; later < size; later++) {
                if (isParameter(later) && scopes[later] == scopes[thing] && isRead(later)) {
                    return true;
                }
            }
            return false;
        }

        boolean couldBeConst(int thing) {
            return kinds[thing] == KIND_LET && valued[thing] && times[thing] == 1 && writes[thing] == 1;
        }
    }

    /** What the RULES find at each TOKEN, as bits, and from which RULES it is excused. */
    private static final class Marks {
        private final int[] rules = new int[MOST_TOKENS];
        private final int[] excused = new int[MOST_TOKENS];
        private final boolean[] loose = new boolean[MOST_TOKENS];

        void clear() {
            for (int token = 0; token < MOST_TOKENS; token++) {
                rules[token] = 0;
                excused[token] = 0;
                loose[token] = false;
            }
        }

        private static boolean isThere(int token) {
            return token >= 0 && token < MOST_TOKENS;
        }

        void add(int token, int rule) {
            if (isThere(token)) {
                rules[token] |= 1 << rule;
            }
        }

        void excuse(int rule, int first, int last) {
            for (int token = first; token <= last; token++) {
                if (isThere(token)) {
                    excused[token] |= 1 << rule;
                }
            }
        }

        /** A loose BLOCK can be left out: it stands in a row of STATEMENTS. */
        void loosen(int token) {
            if (isThere(token)) {
                loose[token] = true;
            }
        }

        int rulesAt(int token) {
            return isThere(token) ? rules[token] : 0;
        }

        int excusedAt(int token) {
            return isThere(token) ? excused[token] : 0;
        }

        boolean isLoose(int token) {
            return isThere(token) && loose[token];
        }
    }

    /** The USES of NAMES; they are bound at the end, as a thing may be DECLARED behind its USES. */
    private static final class Binder {
        private final Tokens tokens;
        private final Scopes scopes;
        private final Things things;
        private final Marks marks;
        private final int[] uses = new int[MOST_TOKENS];
        private final int[] useScopes = new int[MOST_TOKENS];
        private final boolean[] writing = new boolean[MOST_TOKENS];
        private int size;
        private int freeUses;

        Binder(Tokens tokens, Scopes scopes, Things things, Marks marks) {
            this.tokens = tokens;
            this.scopes = scopes;
            this.things = things;
            this.marks = marks;
        }

        void clear() {
            things.clear();
            size = 0;
            freeUses = 0;
        }

        void addUse(int name, int scope, boolean writes) {
            if (size < MOST_TOKENS) {
                uses[size] = name;
                useScopes[size] = scope;
                writing[size] = writes;
                size++;
            }
        }

        void declare(int name, int kind, int scope, boolean withValue) {
            int word = tokens.wordOf(name);
            int thing = things.inScope(scope, word);
            if (thing < 0) {
                thing = things.size;
                things.add(name, word, kind, scope);
            } else {
                things.times[thing]++;
                if (kind != KIND_VAR || things.kinds[thing] != KIND_VAR) {
                    marks.add(name, SHADOW);
                }
            }
            if (withValue && thing < things.size) {
                things.writes[thing]++;
                things.valued[thing] = true;
            }
        }

        void bindAll() {
            for (int use = 0; use < size; use++) {
                bind(use);
            }
            for (int thing = 0; thing < things.size; thing++) {
                judge(thing);
            }
        }

        private void bind(int use) {
            int thing = seenFrom(useScopes[use], tokens.wordOf(uses[use]));
            if (thing < 0) {
                freeUses++;
                marks.add(uses[use], FREE);
                return;
            }
            if (writing[use]) {
                things.writes[thing]++;
            } else {
                things.reads[thing]++;
            }
            if (writing[use] && things.kinds[thing] == KIND_CONST) {
                marks.add(uses[use], CONSTANT);
            }
            if (isEarly(use, thing)) {
                marks.add(uses[use], EARLY);
            }
        }

        /** The thing that a NAME means in a SCOPE or in those around it; else -1. */
        private int seenFrom(int scope, int word) {
            int at = scope;
            for (int level = scopes.levelOf(scope); level >= 0; level--) {
                int thing = things.inScope(at, word);
                if (thing >= 0) {
                    return thing;
                }
                at = scopes.aroundOf(at);
            }
            return -1;
        }

        private boolean isEarly(int use, int thing) {
            boolean timed = things.kinds[thing] == KIND_LET || things.kinds[thing] == KIND_CONST;
            // Of two SCOPES, one within the other, the homes differ just if a fn is between them.
            return timed && uses[use] < things.names[thing]
                    && scopes.homeOf(useScopes[use]) == scopes.homeOf(things.scopes[thing]);
        }

        private void judge(int thing) {
            int name = things.names[thing];
            boolean held = things.isParameter(thing) && things.isHeldByLater(thing);
            if (!things.isRead(thing) && !held) {
                marks.add(name, UNUSED);
            }
            if (isShadow(thing)) {
                marks.add(name, SHADOW);
            }
            if (things.couldBeConst(thing)) {
                // The "let" is the TOKEN in front of its NAME.
                marks.add(name - 1, FIXED);
            }
        }

        private boolean isShadow(int thing) {
            int scope = things.scopes[thing];
            return scopes.levelOf(scope) > 0
                    && seenFrom(scopes.aroundOf(scope), things.words[thing]) >= 0;
        }
    }

    /**
     * The grammar. Each method takes what it is named after and tells whether it was there; if not,
     * it leaves off at the first TOKEN that can not stand there.
     */
    private static final class Parser {
        private final Tokens tokens;
        private final Scopes scopes;
        private final Marks marks;
        private final Binder binder;
        private int at;
        private int scope;

        Parser(Tokens tokens, Scopes scopes, Marks marks, Binder binder) {
            this.tokens = tokens;
            this.scopes = scopes;
            this.marks = marks;
            this.binder = binder;
        }

        /** The WRONG PLACE; -1 if it is a PROGRAM. */
        int program() {
            scopes.clear();
            marks.clear();
            binder.clear();
            at = 0;
            scope = 0;
            boolean right = statements(1) && next() == Token.FINISH;
            return right ? -1 : tokens.startOf(at);
        }

        private Token next() {
            return tokens.kindOf(at);
        }

        private boolean take(Token kind) {
            if (tokens.kindOf(at) != kind) {
                return false;
            }
            at++;
            return true;
        }

        private boolean statements(int depth) {
            boolean behindReturn = false;
            for (int n = 0; n <= MOST_TOKENS; n++) {
                if (next() == Token.END || next() == Token.FINISH) {
                    return true;
                }
                int first = tokens.behindExcuses(at);
                if (behindReturn) {
                    marks.add(first, DEAD);
                }
                if (!statement(depth, true, true)) {
                    return false;
                }
                behindReturn = tokens.kindOf(first) == Token.RETURN;
            }
            return false;
        }

        /** In a row: right in STATEMENTS. It may not declare where it belongs to an if, else or while. */
        private boolean statement(int depth, boolean inRow, boolean mayDeclare) {
            if (depth > MOST_DEEP) {
                return false;
            }
            switch (next()) {
                case LET: return mayDeclare && variable(depth, KIND_LET);
                case CONST: return mayDeclare && variable(depth, KIND_CONST);
                case VAR: return mayDeclare && variable(depth, KIND_VAR);
                case FN: return mayDeclare && function(depth);
                case BEGIN: return block(depth, inRow);
                case IF: return choice(depth);
                case WHILE: return loop(depth);
                case RETURN: return scopes.homeOf(scope) != 0 && leave(depth);
                case AT: return excuse(depth, mayDeclare);
                case STOP: return nothing(inRow);
                default: return value(depth) && take(Token.STOP);
            }
        }

        private boolean nothing(boolean inRow) {
            if (inRow) {
                marks.add(at, SPARE);
            }
            return take(Token.STOP);
        }

        private boolean variable(int depth, int kind) {
            at++;
            int name = at;
            if (!take(Token.NAME)) {
                return false;
            }
            boolean withValue = kind == KIND_CONST || next() == Token.BECOMES;
            int home = kind == KIND_VAR ? scopes.homeOf(scope) : scope;
            binder.declare(name, kind, home, withValue);
            if (withValue && !(take(Token.BECOMES) && value(depth + 1))) {
                return false;
            }
            return take(Token.STOP);
        }

        private boolean function(int depth) {
            at++;
            int name = at;
            if (!take(Token.NAME)) {
                return false;
            }
            binder.declare(name, KIND_FN, scope, false);
            int outer = scope;
            scope = scopes.open(outer, true);
            boolean right = take(Token.OPEN) && parameters() && take(Token.CLOSE)
                    && take(Token.BEGIN) && statements(depth + 1) && take(Token.END);
            scope = outer;
            return right;
        }

        private boolean parameters() {
            if (next() == Token.CLOSE) {
                return true;
            }
            for (int n = 1; n <= MOST_PARAMETERS; n++) {
                int name = at;
                if (!take(Token.NAME)) {
                    return false;
                }
                binder.declare(name, KIND_PARAMETER, scope, false);
                if (n == MOST_PARAMETERS || next() != Token.COMMA) {
                    return true;
                }
                at++;
            }
            return false;
        }

        private boolean block(int depth, boolean inRow) {
            int begin = at;
            at++;
            if (next() == Token.END) {
                marks.add(begin, EMPTY);
                if (inRow) {
                    marks.loosen(begin);
                }
            }
            int outer = scope;
            scope = scopes.open(outer, false);
            boolean right = statements(depth + 1) && take(Token.END);
            scope = outer;
            return right;
        }

        private boolean condition(int depth) {
            return take(Token.OPEN) && value(depth) && take(Token.CLOSE);
        }

        private boolean choice(int depth) {
            at++;
            if (!condition(depth) || !statement(depth + 1, false, false)) {
                return false;
            }
            return !take(Token.ELSE) || statement(depth + 1, false, false);
        }

        private boolean loop(int depth) {
            at++;
            return condition(depth) && statement(depth + 1, false, false);
        }

        private boolean leave(int depth) {
            at++;
            return take(Token.STOP) || value(depth) && take(Token.STOP);
        }

        private boolean excuse(int depth, boolean mayDeclare) {
            at++;
            int rule = tokens.digitOf(at);
            if (rule < 0) {
                return false;
            }
            at++;
            int first = at;
            if (!statement(depth + 1, false, mayDeclare)) {
                return false;
            }
            marks.excuse(rule, first, at - 1);
            return true;
        }

        /** How signs bind matters to no RULE: any row of PARTS with signs between is a VALUE. */
        private boolean value(int depth) {
            if (depth > MOST_DEEP) {
                return false;
            }
            if (next() == Token.NAME && tokens.kindOf(at + 1) == Token.BECOMES) {
                binder.addUse(at, scope, true);
                at += 2;
                return value(depth + 1);
            }
            for (int n = 0; n <= MOST_TOKENS; n++) {
                if (!part(depth)) {
                    return false;
                }
                if (!next().joinsParts()) {
                    return true;
                }
                if (next() == Token.LIKE) {
                    marks.add(at, EQUAL);
                }
                at++;
            }
            return false;
        }

        private boolean part(int depth) {
            switch (next()) {
                case NUMBER: return take(Token.NUMBER);
                case TEXT: return take(Token.TEXT);
                case NAME: return use(depth);
                case NOT:
                case MINUS:
                    if (depth >= MOST_DEEP) {
                        return false;
                    }
                    at++;
                    return part(depth + 1);
                case OPEN:
                    if (depth >= MOST_DEEP) {
                        return false;
                    }
                    at++;
                    return value(depth + 1) && take(Token.CLOSE);
                default: return false;
            }
        }

        private boolean use(int depth) {
            binder.addUse(at, scope, false);
            at++;
            return !take(Token.OPEN) || take(Token.CLOSE) || arguments(depth + 1) && take(Token.CLOSE);
        }

        private boolean arguments(int depth) {
            for (int n = 0; n <= MOST_TOKENS; n++) {
                if (!value(depth)) {
                    return false;
                }
                if (!take(Token.COMMA)) {
                    return true;
                }
            }
            return false;
        }
    }

    /** A text and all that reading it tells. */
    private static final class Reading {
        private final Letters letters;
        private final Tokens tokens;
        private final Scopes scopes;
        private final Things things;
        private final Marks marks;
        private final Binder binder;
        private final Parser parser;

        Reading(Letters letters, Tokens tokens, Scopes scopes, Things things, Marks marks,
                Binder binder, Parser parser) {
            this.letters = letters;
            this.tokens = tokens;
            this.scopes = scopes;
            this.things = things;
            this.marks = marks;
            this.binder = binder;
            this.parser = parser;
        }

        /** The WRONG PLACE; -1 if the text is a PROGRAM. */
        int study() {
            tokens.scan();
            int wrongAt = parser.program();
            if (wrongAt < 0) {
                binder.bindAll();
            }
            return wrongAt;
        }
    }

    /** Which RULES are ON and which names are GIVEN, and so which FINDINGS a Reading has. */
    private static final class Settings {
        private final long[] given = new long[MOST_GIVEN];
        private int givenSize;
        private int rulesOn = ALL_RULES;

        boolean isOn(int rule) {
            return (rulesOn & 1 << rule) != 0;
        }

        void turn(int rule, boolean on) {
            rulesOn = on ? rulesOn | 1 << rule : rulesOn & ~(1 << rule);
        }

        boolean isGiven(long name) {
            for (int k = 0; k < givenSize; k++) {
                if (given[k] == name) {
                    return true;
                }
            }
            return false;
        }

        void addGiven(long name) {
            if (givenSize < MOST_GIVEN) {
                given[givenSize] = name;
                givenSize++;
            }
        }

        private int rulesAt(Reading reading, int token) {
            int rules = reading.marks.rulesAt(token) & rulesOn;
            boolean free = (rules & 1 << FREE) != 0;
            return free && isGiven(reading.tokens.octetsOf(token)) ? rules & ~(1 << FREE) : rules;
        }

        private int findingsAt(Reading reading, int token) {
            return rulesAt(reading, token) & ~reading.marks.excusedAt(token);
        }

        int findingsIn(Reading reading) {
            int sum = 0;
            for (int token = 0; token < reading.tokens.size; token++) {
                sum += Integer.bitCount(findingsAt(reading, token));
            }
            return sum;
        }

        int excusedIn(Reading reading) {
            int sum = 0;
            for (int token = 0; token < reading.tokens.size; token++) {
                sum += Integer.bitCount(rulesAt(reading, token) & reading.marks.excusedAt(token));
            }
            return sum;
        }

        /** The k-th FINDING as its TOKEN times RULES and its RULE; -1 if there is none. */
        int findingOf(Reading reading, int k) {
            int before = 0;
            for (int token = 0; token < reading.tokens.size; token++) {
                int rules = findingsAt(reading, token);
                for (int rule = 0; rule < RULES; rule++) {
                    if ((rules & 1 << rule) != 0) {
                        if (before == k) {
                            return token * RULES + rule;
                        }
                        before++;
                    }
                }
            }
            return -1;
        }

        int mendablesIn(Reading reading) {
            int sum = 0;
            for (int token = 0; token < reading.tokens.size; token++) {
                if (mendableAt(reading, token) >= 0) {
                    sum++;
                }
            }
            return sum;
        }

        /** The RULE of the one FINDING at a TOKEN that can be mended; else -1. */
        int mendableAt(Reading reading, int token) {
            int rules = findingsAt(reading, token);
            for (int rule = EQUAL; rule <= SPARE; rule++) {
                boolean needed = rule == EMPTY && !reading.marks.isLoose(token);
                if ((rules & 1 << rule) != 0 && !needed) {
                    return rule;
                }
            }
            return -1;
        }
    }
}
