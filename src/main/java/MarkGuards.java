import java.util.NoSuchElementException;

/** Programs guarded by block signatures, told as a text; see the document for every promise. */
public final class MarkGuards {
    public static final int NONE = -1;

    private static final int ABSENT = -2;
    private static final long ERROR = Long.MIN_VALUE;

    private static final int TAPE_ROOM = 700;
    private static final int FEED_BYTES = 20;
    private static final int MOST_BLOCKS = 8;
    private static final int MOST_EDGES = 16;
    private static final int MOST_EDGES_FROM = 3;
    private static final int MOST_KNOTS = 64;
    private static final int MOST_OPEN = 8;
    private static final int MOST_LETTERS = 6;
    private static final int MOST_NOTES = 24;
    private static final int MOST_UNDONE = 20;
    private static final int MOST_SIGN = 255;
    private static final int MOST_WORK = 99;
    private static final int MOST_LIMIT = 40;
    private static final int MOST_SEED = 99999;
    private static final int MOST_NUMBER = 9999;
    private static final int MOST_STEPS = 200;
    private static final int LAST_STEP = 9800;
    private static final int MOST_COMING = 199;
    private static final int MOST_TAKEN = 9;
    private static final int MOST_HELD = 6;
    private static final int MOST_DRAWN = 99;
    private static final int TIMES_DRAWN = 10;
    private static final int SIGNS_ASKED = 16;
    private static final int HUNDRED = 100;

    private static final int RULES = 3;
    private static final int OUT = 0;
    private static final int TURN = 1;
    private static final int LAND = 2;

    private static final int LINE_WORD = 0;
    private static final int RULE_WORD = 1;
    private static final int NAME_WORD = 2;
    private static final int INFIX = 3;
    private static final int OTHER = 4;

    private static final int RANK_OR = 1;
    private static final int RANK_AND = 2;
    private static final int RANK_NOT = 3;
    private static final int RANK_COMPARE = 4;
    private static final int RANK_SUM = 5;
    private static final int RANK_PRODUCT = 6;

    private static final int NO_TOKEN = 1;
    private static final int TOO_MUCH = 2;
    private static final int TOLD_ALREADY = 3;
    private static final int NOT_TOLD = 4;
    private static final int NO_BASE = 5;

    private static final int JUMP_BY_ODDS = 0;
    private static final int JUMP_NEVER = 1;
    private static final int JUMP_ALWAYS = 2;

    private final Reader reader;
    private final Program program;
    private final Run run;
    private final Run trial;
    private final Walk walk;
    private final Slips slips;
    private final Notebook notebook;
    private final History history;
    private int fault;
    private int faultPlace;

    public MarkGuards() {
        reader = new Reader();
        program = new Program();
        run = new Run();
        trial = new Run();
        walk = new Walk(program);
        slips = new Slips(program.graph);
        notebook = new Notebook(slips);
        history = new History();
        fault = 0;
        faultPlace = NONE;
    }

    public int feed(int a, int b, int c, int d, int e) {
        Tokens tokens = reader.tokens;
        if (tokens.room() < FEED_BYTES) {
            return NONE;
        }
        tokens.append(a);
        tokens.append(b);
        tokens.append(c);
        tokens.append(d);
        tokens.append(e);
        return tokens.length;
    }

    public int text(int n) {
        if (n < 0 || n > reader.tokens.length) {
            return ABSENT;
        }
        boolean read = reader.readText(n);
        reader.tokens.length = 0;
        fault = reader.fault;
        faultPlace = reader.faultPlace;
        if (!read) {
            return NONE;
        }
        program.copyFrom(reader.draft);
        run.begin(program);
        notebook.clear();
        history.clear();
        return program.lines;
    }

    public int fault(int what) {
        switch (what) {
            case 0:
                return fault;
            case 1:
                return faultPlace;
            default:
                return NONE;
        }
    }

    public int named(int letters) {
        return program.find(letters);
    }

    public int block(int block, int what) throws IndexOutOfBoundsException, NoSuchElementException {
        if (!program.graph.hasBlock(block)) {
            throw new IndexOutOfBoundsException("no such block");
        }
        switch (what) {
            case 0:
                return run.signs[block];
            case 1:
                return program.works[block];
            case 2:
                return has(run.checks, block) ? 1 : 0;
            case 3:
                return run.visits[block];
            case 4:
                return program.graph.outCount[block];
            case 5:
                return program.graph.inCount[block];
            default:
                throw new NoSuchElementException("no such what");
        }
    }

    public int edge(int edge, int what) {
        Graph graph = program.graph;
        if (!graph.hasEdge(edge)) {
            return NONE;
        }
        switch (what) {
            case 0:
                return graph.from[edge];
            case 1:
                return graph.to[edge];
            case 2:
                return graph.adjustment(edge, run.signs, graph.bases);
            default:
                return NONE;
        }
    }

    public int base(int block) {
        if (!program.graph.hasBlock(block)) {
            return NONE;
        }
        int base = program.graph.bases[block];
        return base < 0 ? ABSENT : base;
    }

    public int diff(int block) {
        if (!program.graph.hasBlock(block)) {
            return NONE;
        }
        return program.graph.difference(block, run.signs, program.graph.bases);
    }

    public long law(int what, int block) {
        if (!program.graph.hasBlock(block)) {
            return ERROR;
        }
        walk.asItGoes();
        return walk.lawAt(what, run, block);
    }

    public boolean jump(int block) {
        if (!program.graph.hasBlock(block)) {
            return false;
        }
        history.remember(run);
        walk.asItGoes();
        run.jumps++;
        return !walk.enter(run, block);
    }

    public int check(int block) {
        if (!program.graph.hasBlock(block)) {
            return NONE;
        }
        history.remember(run);
        run.checks ^= bit(block);
        return has(run.checks, block) ? 1 : 0;
    }

    public int sign(int block, int sign) {
        if (!program.graph.hasBlock(block) || !within(sign, 0, MOST_SIGN)) {
            return NONE;
        }
        history.remember(run);
        int before = run.signs[block];
        run.signs[block] = sign;
        return before;
    }

    public int go(int n) {
        if (!within(n, 0, MOST_STEPS) || run.step + n > LAST_STEP) {
            return NONE;
        }
        if (n > 0) {
            history.forgetUndone();
        }
        walk.byNumbers();
        walk.steps(run, n);
        return run.step;
    }

    public int ahead(int n, int what) {
        if (!within(n, 0, MOST_STEPS) || !within(what, 0, 4)) {
            return NONE;
        }
        trial.copyFrom(run);
        walk.asItGoes();
        walk.steps(trial, n);
        switch (what) {
            case 0:
                return placeOf(trial);
            case 1:
                return trial.mark;
            case 2:
                return trial.total - run.total;
            case 3:
                return trial.alarms - run.alarms;
            default:
                return trial.jumps - run.jumps;
        }
    }

    public int comes(int block) {
        if (!program.graph.hasBlock(block)) {
            return NONE;
        }
        trial.copyFrom(run);
        walk.asItGoes();
        for (int steps = 0; steps <= MOST_COMING; steps++) {
            if (trial.place == block) {
                return steps;
            }
            walk.steps(trial, 1);
        }
        return ABSENT;
    }

    public int slip(int edge, int block) {
        if (!program.graph.hasSlip(edge, block)) {
            return NONE;
        }
        slips.take(run.signs);
        return slips.markOf(edge, block);
    }

    public int caught(int edge, int block) {
        if (!program.graph.hasSlip(edge, block)) {
            return NONE;
        }
        slips.take(run.signs);
        return slips.latestAlarm(edge, block, run.checks);
    }

    public int soonest(int edge, int block) {
        if (!program.graph.hasSlip(edge, block)) {
            return NONE;
        }
        slips.take(run.signs);
        return slips.earliestAlarm(edge, block, run.checks);
    }

    public int beyond(int edge, int block) {
        if (!program.graph.hasSlip(edge, block)) {
            return NONE;
        }
        slips.take(run.signs);
        return slips.statesBehind(edge, block, run.checks);
    }

    public int cover(int what) {
        if (!within(what, 0, 3)) {
            return NONE;
        }
        slips.take(run.signs);
        switch (what) {
            case 0:
                return slips.howMany();
            case 1:
                return slips.lookingRight();
            case 2:
                return slips.caughtWithin(program.limit, run.checks);
            default:
                return slips.howMany() - slips.caughtWithin(MOST_LIMIT, run.checks);
        }
    }

    public int checks(int what) {
        if (!within(what, 0, 1)) {
            return NONE;
        }
        slips.take(run.signs);
        int fewest = slips.fewestChecks(program.limit);
        return what == 0 ? fewest : slips.caughtWithin(program.limit, fewest);
    }

    public int bases() {
        slips.take(run.signs);
        return slips.fewestLookingRight();
    }

    public int only(int block) {
        return program.graph.hasBlock(block) ? program.graph.onEveryWay(block) : NONE;
    }

    public int far(int from, int to) {
        Graph graph = program.graph;
        if (!graph.hasBlock(from) || !graph.hasBlock(to)) {
            return NONE;
        }
        return graph.distance(from, bit(to));
    }

    public int ring(int block) {
        return program.graph.hasBlock(block) ? program.graph.ringOf(block) : NONE;
    }

    public int nearest(int block) {
        return program.graph.hasBlock(block) ? program.graph.distance(block, run.checks) : NONE;
    }

    public int leaders(int block, int n, int what) {
        Graph graph = program.graph;
        if (!graph.hasBlock(block) || !within(n, 0, MOST_TAKEN) || !within(what, 0, 1)) {
            return NONE;
        }
        if (what == 0) {
            return has(graph.winning(n, n, run.checks), block) ? 0 : 1;
        }
        if (n == 0 || has(run.checks, block)) {
            return ABSENT;
        }
        return graph.firstEdgeInto(block, graph.winning(n, n - 1, run.checks));
    }

    public long holds(int n, int what) {
        if (!within(n, 0, MOST_HELD) || !within(what, 0, 1)) {
            return NONE;
        }
        int common = commonDivisor(HUNDRED - program.odds, HUNDRED);
        if (common < 1) {
            return NONE;
        }
        long part = (what == 0 ? HUNDRED - program.odds : HUNDRED) / common;
        long power = 1;
        for (int i = 0; i < n; i++) {
            power *= part;
        }
        return power;
    }

    public int ways(int block, int n) {
        if (!program.graph.hasBlock(block) || !within(n, 0, MOST_TAKEN)) {
            return NONE;
        }
        return program.graph.waysTo(block, n);
    }

    public int alike() {
        int pairs = 0;
        for (int a = 0; a < program.graph.blocks; a++) {
            for (int b = 0; b < a; b++) {
                if (run.signs[a] == run.signs[b]) {
                    pairs++;
                }
            }
        }
        return pairs;
    }

    public int note(int edge, int block, boolean looksRight) {
        if (!program.graph.hasSlip(edge, block)) {
            return NONE;
        }
        return notebook.write(edge, block, looksRight);
    }

    public int strike(int note) {
        return notebook.writeStrike(note);
    }

    public boolean known(int n) {
        return notebook.knowBy(n);
    }

    public int signs(int block) {
        if (!program.graph.hasBlock(block)) {
            return NONE;
        }
        slips.take(run.signs);
        return notebook.signsLeft(block);
    }

    public int ask(int block, int what) {
        if (!program.graph.hasBlock(block) || !within(what, 0, 2)) {
            return NONE;
        }
        slips.take(run.signs);
        if (!notebook.findQuestion(block)) {
            return ABSENT;
        }
        switch (what) {
            case 0:
                return notebook.askedEdge;
            case 1:
                return notebook.askedBlock;
            default:
                return notebook.leftAtWorst;
        }
    }

    public int chance(int seed, int n) {
        if (seed < 0 || !within(n, 1, MOST_DRAWN)) {
            return NONE;
        }
        walk.byNumbers();
        int alarmed = 0;
        long number = seed;
        for (int time = 0; time < TIMES_DRAWN; time++) {
            trial.copyFrom(run);
            trial.number = number;
            walk.steps(trial, n);
            number = trial.number;
            if (trial.alarms > run.alarms) {
                alarmed++;
            }
        }
        return alarmed;
    }

    public int tried(int what, int i, int n) {
        if (!within(what, 0, 4) || !within(n, 0, MOST_STEPS)) {
            return NONE;
        }
        if (what == 2 ? !program.graph.hasBlock(i) : i != 0) {
            return NONE;
        }
        trial.copyFrom(run);
        walk.asItGoes();
        walk.changeManner(what, i);
        if (what == 1) {
            trial.checks = 0;
        }
        walk.steps(trial, n);
        return trial.total - run.total;
    }

    public int undo() {
        return history.undoLatest(run);
    }

    public int keep() {
        history.keepImage(run);
        return run.step;
    }

    public int back() {
        return history.returnToImage(run) ? run.step : NONE;
    }

    public int count(int what) {
        switch (what) {
            case 0:
                return program.graph.blocks;
            case 1:
                return program.graph.edges;
            case 2:
                return Integer.bitCount(run.checks);
            case 3:
                return program.laws.knots;
            case 4:
                return run.step;
            case 5:
                return placeOf(run);
            case 6:
                return run.mark;
            case 7:
                return run.adjust;
            case 8:
                return run.total;
            case 9:
                return run.alarms;
            case 10:
                return run.jumps;
            case 11:
                return run.ends;
            case 12:
                return notebook.written;
            case 13:
                return notebook.howManyKnown();
            case 14:
                return history.undoable;
            default:
                return NONE;
        }
    }

    private int placeOf(Run some) {
        return program.graph.blocks == 0 ? ABSENT : some.place;
    }

    private static boolean within(int value, int least, int most) {
        return value >= least && value <= most;
    }

    private static int bit(int block) {
        return 1 << block;
    }

    private static boolean has(int set, int block) {
        return (set >> block & 1) != 0;
    }

    private static int commonDivisor(int a, int b) {
        int greater = a;
        int less = b;
        for (int i = 0; i < HUNDRED && less != 0; i++) {
            int rest = greater % less;
            greater = less;
            less = rest;
        }
        return greater;
    }

    /** What a token can be; the code is a word's packed letters or a sign's one or two bytes. */
    private enum Kind {
        BLOCK("block", LINE_WORD, 0),
        EDGE("edge", LINE_WORD, 0),
        CHECK("check", LINE_WORD, 0),
        BASE("base", LINE_WORD, 0),
        LIMIT("limit", LINE_WORD, 0),
        JUMP("jump", LINE_WORD, 0),
        SEED("seed", LINE_WORD, 0),
        LAW("law", LINE_WORD, 0),
        OUT_RULE("out", RULE_WORD, OUT),
        TURN_RULE("turn", RULE_WORD, TURN),
        LAND_RULE("land", RULE_WORD, LAND),
        WORK("work", NAME_WORD, 0),
        VISITS("visits", NAME_WORD, 1),
        MARK("mark", NAME_WORD, 2),
        PLACE("place", NAME_WORD, 3),
        WAYS("ways", NAME_WORD, 4),
        TOTAL("total", NAME_WORD, 5),
        STEP("step", NAME_WORD, 6),
        OR("or", INFIX, RANK_OR),
        AND("and", INFIX, RANK_AND),
        NOT("not", OTHER, RANK_NOT),
        LESS("<", INFIX, RANK_COMPARE),
        AT_MOST("<=", INFIX, RANK_COMPARE),
        EQUAL("=", INFIX, RANK_COMPARE),
        UNLIKE("<>", INFIX, RANK_COMPARE),
        AT_LEAST(">=", INFIX, RANK_COMPARE),
        MORE(">", INFIX, RANK_COMPARE),
        PLUS("+", INFIX, RANK_SUM),
        MINUS("-", INFIX, RANK_SUM),
        TIMES("*", INFIX, RANK_PRODUCT),
        OVER("/", INFIX, RANK_PRODUCT),
        OPENING("(", OTHER, 0),
        CLOSING(")", OTHER, 0),
        SEMICOLON(";", OTHER, 0),
        NUMBER("", OTHER, 0),
        OWN_WORD("", OTHER, 0),
        END("", OTHER, 0),
        BAD("", OTHER, 0);

        private static final Kind[] ALL = values();

        final int code;
        final int role;
        final int rank;

        Kind(String spelling, int role, int rank) {
            this.code = codeOf(spelling);
            this.role = role;
            this.rank = rank;
        }

        private static int codeOf(String spelling) {
            boolean word = spelling.length() > 0 && spelling.charAt(0) >= 'a';
            int code = 0;
            for (int i = 0; i < spelling.length(); i++) {
                char sign = spelling.charAt(i);
                code = word ? withLetter(code, i, sign) : code * 256 + sign;
            }
            return code;
        }

        /** A word's code with one letter more: five bits each, the first one highest of six. */
        static int withLetter(int code, int index, int letter) {
            return code | (letter - 'a' + 1) << 5 * (MOST_LETTERS - 1 - index);
        }

        /** The kind that is written so, or the other one. */
        static Kind written(int code, Kind otherwise) {
            for (int i = 0; code > 0 && i < ALL.length; i++) {
                if (ALL[i].code == code) {
                    return ALL[i];
                }
            }
            return otherwise;
        }
    }

    /** The TAPE and the token one has come to on it. */
    private static final class Tokens {
        final int[] tape = new int[TAPE_ROOM];
        int length;
        int end;
        int next;
        Kind kind = Kind.END;
        int place;
        int letters;
        int number;

        int room() {
            return TAPE_ROOM - length;
        }

        /** Four bytes more, the highest first. */
        void append(int word) {
            for (int shift = 24; shift >= 0 && length < TAPE_ROOM; shift -= 8) {
                tape[length] = word >> shift & 255;
                length++;
            }
        }

        void begin(int n) {
            end = Math.min(Math.max(n, 0), length);
            next = 0;
            advance();
        }

        void advance() {
            while (next < end && (tape[next] == 10 || tape[next] == 32)) {
                next++;
            }
            place = next;
            if (next >= end) {
                kind = Kind.END;
            } else if (isLetter(tape[next])) {
                readWord();
            } else if (isDigit(tape[next])) {
                readNumber();
            } else {
                readSign();
            }
        }

        private static boolean isLetter(int sign) {
            return sign >= 'a' && sign <= 'z';
        }

        private static boolean isDigit(int sign) {
            return sign >= '0' && sign <= '9';
        }

        private void readWord() {
            letters = 0;
            while (next < end && isLetter(tape[next])) {
                if (next - place < MOST_LETTERS) {
                    letters = Kind.withLetter(letters, next - place, tape[next]);
                }
                next++;
            }
            kind = next - place > MOST_LETTERS ? Kind.BAD : Kind.written(letters, Kind.OWN_WORD);
        }

        private void readNumber() {
            number = 0;
            while (next < end && isDigit(tape[next])) {
                // what is above every bound stays so, however many digits come
                number = Math.min(number * 10 + tape[next] - '0', 10 * MOST_SEED);
                next++;
            }
            kind = Kind.NUMBER;
        }

        private void readSign() {
            int code = tape[next];
            next++;
            boolean comparing = code == '<' || code == '>';
            if (comparing && next < end && (tape[next] == '=' || code == '<' && tape[next] == '>')) {
                code = code * 256 + tape[next];
                next++;
            }
            kind = Kind.written(code, Kind.BAD);
        }
    }

    /** Reads a TEXT into a draft, or tells its FAULT. */
    private static final class Reader {
        final Tokens tokens = new Tokens();
        final Program draft = new Program();
        int fault;
        int faultPlace = NONE;
        private final Kind[] waiting = new Kind[MOST_KNOTS + MOST_OPEN];
        private int waitingCount;
        private int open;

        boolean readText(int n) {
            fault = 0;
            faultPlace = NONE;
            draft.clear();
            tokens.begin(n);
            for (int i = 0; i < TAPE_ROOM && tokens.kind != Kind.END; i++) {
                if (!readLine() || !skip(Kind.SEMICOLON)) {
                    return false;
                }
                draft.lines++;
            }
            draft.graph.finish();
            return true;
        }

        private boolean fail(int code) {
            fault = code;
            faultPlace = tokens.place;
            return false;
        }

        private boolean skip(Kind kind) {
            if (tokens.kind != kind) {
                return fail(NO_TOKEN);
            }
            tokens.advance();
            return true;
        }

        private boolean readLine() {
            switch (tokens.kind) {
                case BLOCK:
                    return readBlock();
                case EDGE:
                    return readEdge();
                case CHECK:
                    return readCheck();
                case BASE:
                    return readBase();
                case LIMIT:
                case JUMP:
                case SEED:
                    return readSetting(tokens.kind);
                case LAW:
                    return readLaw();
                default:
                    return fail(NO_TOKEN);
            }
        }

        private boolean readBlock() {
            if (draft.graph.blocks >= MOST_BLOCKS) {
                return fail(TOO_MUCH);
            }
            tokens.advance();
            if (tokens.kind != Kind.OWN_WORD) {
                return fail(NO_TOKEN);
            }
            if (draft.find(tokens.letters) >= 0) {
                return fail(TOLD_ALREADY);
            }
            int name = tokens.letters;
            tokens.advance();
            if (!isNumber(0, MOST_SIGN)) {
                return false;
            }
            int sign = tokens.number;
            tokens.advance();
            if (!isNumber(0, MOST_WORK)) {
                return false;
            }
            draft.addBlock(name, sign, tokens.number);
            tokens.advance();
            return true;
        }

        private boolean isNumber(int least, int most) {
            if (tokens.kind != Kind.NUMBER) {
                return fail(NO_TOKEN);
            }
            return within(tokens.number, least, most) || fail(TOO_MUCH);
        }

        /** The BLOCK named by the token, NONE with a fault. */
        private int namedBlock() {
            if (tokens.kind != Kind.OWN_WORD) {
                fail(NO_TOKEN);
                return NONE;
            }
            int block = draft.find(tokens.letters);
            if (block < 0) {
                fail(NOT_TOLD);
            }
            return block;
        }

        private boolean readEdge() {
            Graph graph = draft.graph;
            if (graph.edges >= MOST_EDGES) {
                return fail(TOO_MUCH);
            }
            tokens.advance();
            int from = namedBlock();
            if (from < 0) {
                return false;
            }
            if (graph.outCount[from] >= MOST_EDGES_FROM) {
                return fail(TOO_MUCH);
            }
            tokens.advance();
            int to = namedBlock();
            if (to < 0) {
                return false;
            }
            if (has(graph.next[from], to)) {
                return fail(TOLD_ALREADY);
            }
            graph.addEdge(from, to);
            tokens.advance();
            return true;
        }

        private boolean readCheck() {
            tokens.advance();
            int block = namedBlock();
            if (block < 0) {
                return false;
            }
            if (has(draft.checks, block)) {
                return fail(TOLD_ALREADY);
            }
            draft.checks |= bit(block);
            tokens.advance();
            return true;
        }

        private boolean readBase() {
            Graph graph = draft.graph;
            tokens.advance();
            int block = namedBlock();
            if (block < 0) {
                return false;
            }
            if (graph.bases[block] >= 0) {
                return fail(TOLD_ALREADY);
            }
            tokens.advance();
            int base = namedBlock();
            if (base < 0) {
                return false;
            }
            if (!has(graph.next[base], block)) {
                return fail(NO_BASE);
            }
            graph.bases[block] = base;
            tokens.advance();
            return true;
        }

        private boolean readSetting(Kind setting) {
            int least = setting == Kind.LIMIT ? 1 : 0;
            int most = setting == Kind.LIMIT ? MOST_LIMIT : setting == Kind.JUMP ? HUNDRED : MOST_SEED;
            if (draft.isTold(setting)) {
                return fail(TOLD_ALREADY);
            }
            tokens.advance();
            if (!isNumber(least, most)) {
                return false;
            }
            draft.tell(setting, tokens.number);
            tokens.advance();
            return true;
        }

        private boolean readLaw() {
            tokens.advance();
            if (tokens.kind.role != RULE_WORD) {
                return fail(NO_TOKEN);
            }
            int rule = tokens.kind.rank;
            if (draft.laws.isTold(rule)) {
                return fail(TOLD_ALREADY);
            }
            tokens.advance();
            draft.laws.beginRule(rule);
            if (!readFormula()) {
                return false;
            }
            draft.laws.endRule(rule);
            return true;
        }

        /** E, operands written out at once, signs and words as soon as both sides stand. */
        private boolean readFormula() {
            waitingCount = 0;
            open = 0;
            boolean operandDue = true;
            boolean mayNegate = true;
            for (int i = 0; i < TAPE_ROOM; i++) {
                Kind kind = tokens.kind;
                if (operandDue) {
                    boolean prefix = kind == Kind.OPENING || kind == Kind.NOT && mayNegate;
                    if (!(prefix ? readPrefix() : readOperand())) {
                        return false;
                    }
                    operandDue = prefix;
                    mayNegate = prefix;
                } else if (kind == Kind.CLOSING && open > 0) {
                    closeGroup();
                } else if (kind.role == INFIX) {
                    if (!readInfix()) {
                        return false;
                    }
                    operandDue = true;
                    mayNegate = kind.rank < RANK_NOT;
                } else {
                    return endFormula();
                }
                tokens.advance();
            }
            return fail(NO_TOKEN);
        }

        private boolean countKnot() {
            if (draft.laws.knots >= MOST_KNOTS) {
                return fail(TOO_MUCH);
            }
            draft.laws.knots++;
            return true;
        }

        private boolean readPrefix() {
            if (tokens.kind == Kind.NOT) {
                if (!countKnot()) {
                    return false;
                }
            } else if (open >= MOST_OPEN) {
                return fail(TOO_MUCH);
            } else {
                open++;
            }
            pushWaiting(tokens.kind);
            return true;
        }

        private boolean readOperand() {
            boolean number = tokens.kind == Kind.NUMBER;
            if (!number && tokens.kind.role != NAME_WORD) {
                return fail(NO_TOKEN);
            }
            if (number && tokens.number > MOST_NUMBER) {
                return fail(TOO_MUCH);
            }
            if (!countKnot()) {
                return false;
            }
            draft.laws.write(tokens.kind, number ? tokens.number : 0);
            return true;
        }

        private boolean readInfix() {
            Kind kind = tokens.kind;
            boolean comparing = kind.rank == RANK_COMPARE;
            // two comparisons in a row have no meaning in E, so one never closes another one
            writeWaiting(comparing ? RANK_SUM : kind.rank);
            if (comparing && topRank() == RANK_COMPARE) {
                return fail(NO_TOKEN);
            }
            if (!countKnot()) {
                return false;
            }
            pushWaiting(kind);
            return true;
        }

        private void closeGroup() {
            writeWaiting(1);
            if (waitingCount > 0) {
                waitingCount--;
            }
            open--;
        }

        private boolean endFormula() {
            if (open > 0) {
                return fail(NO_TOKEN);
            }
            writeWaiting(1);
            return true;
        }

        private void pushWaiting(Kind kind) {
            if (waitingCount < waiting.length) {
                waiting[waitingCount] = kind;
                waitingCount++;
            }
        }

        /** The rank of what waits last; 0 of '(' and of nothing. */
        private int topRank() {
            Kind top = waitingCount > 0 ? waiting[waitingCount - 1] : null;
            return top == null ? 0 : top.rank;
        }

        private void writeWaiting(int leastRank) {
            for (int i = 0; i < waiting.length && topRank() >= leastRank; i++) {
                waitingCount--;
                draft.laws.write(waiting[waitingCount], 0);
            }
        }
    }

    /** What a TEXT tells. */
    private static final class Program {
        final int[] names = new int[MOST_BLOCKS];
        final int[] signs = new int[MOST_BLOCKS];
        final int[] works = new int[MOST_BLOCKS];
        final Graph graph = new Graph();
        final Laws laws = new Laws();
        int checks;
        int limit = 10;
        int odds;
        int seed;
        int lines;
        private boolean limitTold;
        private boolean oddsTold;
        private boolean seedTold;

        void clear() {
            graph.clear();
            laws.clear();
            checks = 0;
            limit = 10;
            odds = 0;
            seed = 0;
            lines = 0;
            limitTold = false;
            oddsTold = false;
            seedTold = false;
        }

        void copyFrom(Program other) {
            System.arraycopy(other.names, 0, names, 0, MOST_BLOCKS);
            System.arraycopy(other.signs, 0, signs, 0, MOST_BLOCKS);
            System.arraycopy(other.works, 0, works, 0, MOST_BLOCKS);
            graph.copyFrom(other.graph);
            laws.copyFrom(other.laws);
            checks = other.checks;
            limit = other.limit;
            odds = other.odds;
            seed = other.seed;
            lines = other.lines;
        }

        int find(int letters) {
            for (int i = 0; i < graph.blocks; i++) {
                if (names[i] == letters) {
                    return i;
                }
            }
            return NONE;
        }

        void addBlock(int name, int sign, int work) {
            int block = graph.blocks;
            if (block < MOST_BLOCKS) {
                names[block] = name;
                signs[block] = sign;
                works[block] = work;
                graph.addBlock();
            }
        }

        boolean isTold(Kind setting) {
            return setting == Kind.LIMIT ? limitTold : setting == Kind.JUMP ? oddsTold : seedTold;
        }

        void tell(Kind setting, int value) {
            if (setting == Kind.LIMIT) {
                limit = value;
                limitTold = true;
            } else if (setting == Kind.JUMP) {
                odds = value;
                oddsTold = true;
            } else {
                seed = value;
                seedTold = true;
            }
        }
    }

    /** BLOCKS, EDGES and BASES, without SIGNS; sets of BLOCKS are bits. */
    private static final class Graph {
        int blocks;
        int edges;
        final int[] from = new int[MOST_EDGES];
        final int[] to = new int[MOST_EDGES];
        final int[] outCount = new int[MOST_BLOCKS];
        final int[] inCount = new int[MOST_BLOCKS];
        final int[] next = new int[MOST_BLOCKS];
        final int[] bases = new int[MOST_BLOCKS];
        private final int[] outEdges = new int[MOST_BLOCKS * MOST_EDGES_FROM];
        private final int[] ways = new int[MOST_BLOCKS];
        private final int[] longerWays = new int[MOST_BLOCKS];

        void clear() {
            blocks = 0;
            edges = 0;
        }

        void copyFrom(Graph other) {
            blocks = other.blocks;
            edges = other.edges;
            System.arraycopy(other.from, 0, from, 0, MOST_EDGES);
            System.arraycopy(other.to, 0, to, 0, MOST_EDGES);
            System.arraycopy(other.outCount, 0, outCount, 0, MOST_BLOCKS);
            System.arraycopy(other.inCount, 0, inCount, 0, MOST_BLOCKS);
            System.arraycopy(other.next, 0, next, 0, MOST_BLOCKS);
            System.arraycopy(other.bases, 0, bases, 0, MOST_BLOCKS);
            System.arraycopy(other.outEdges, 0, outEdges, 0, outEdges.length);
        }

        void addBlock() {
            if (blocks < MOST_BLOCKS) {
                outCount[blocks] = 0;
                inCount[blocks] = 0;
                next[blocks] = 0;
                bases[blocks] = NONE;
                blocks++;
            }
        }

        void addEdge(int start, int goal) {
            if (edges < MOST_EDGES && hasBlock(start) && hasBlock(goal) && outCount[start] < MOST_EDGES_FROM) {
                from[edges] = start;
                to[edges] = goal;
                outEdges[start * MOST_EDGES_FROM + outCount[start]] = edges;
                outCount[start]++;
                inCount[goal]++;
                next[start] |= bit(goal);
                edges++;
            }
        }

        /** A BLOCK without a told BASE has the one from which the first EDGE to it leads. */
        void finish() {
            for (int e = 0; e < edges; e++) {
                if (bases[to[e]] < 0) {
                    bases[to[e]] = from[e];
                }
            }
        }

        boolean hasBlock(int block) {
            return block >= 0 && block < blocks;
        }

        boolean hasEdge(int edge) {
            return edge >= 0 && edge < edges;
        }

        boolean hasSlip(int edge, int block) {
            return hasEdge(edge) && hasBlock(block) && to[edge] != block;
        }

        boolean isJoin(int block) {
            return block >= 0 && block < blocks && inCount[block] > 1;
        }

        /** The EDGE of that number among those from a BLOCK, NONE without. */
        int edgeFrom(int block, int index) {
            boolean there = hasBlock(block) && index >= 0 && index < outCount[block];
            return there ? outEdges[block * MOST_EDGES_FROM + index] : NONE;
        }

        int difference(int block, int[] signs, int[] someBases) {
            int base = someBases[block];
            return hasBlock(base) ? signs[base] ^ signs[block] : signs[block];
        }

        int adjustment(int edge, int[] signs, int[] someBases) {
            int base = someBases[to[edge]];
            return isJoin(to[edge]) && hasBlock(base) ? signs[base] ^ signs[from[edge]] : 0;
        }

        /** BLOCKS to which an EDGE leads from the set. */
        private int behind(int set) {
            int reached = 0;
            for (int b = 0; b < blocks; b++) {
                if (has(set, b)) {
                    reached |= next[b];
                }
            }
            return reached;
        }

        /** BLOCKS to which one comes from that one, it with, if those that are shut are never left. */
        int reachable(int start, int shut) {
            int reached = bit(start);
            for (int i = 0; i < blocks; i++) {
                reached |= behind(reached & ~shut);
            }
            return reached;
        }

        int distance(int start, int goals) {
            int reached = bit(start);
            for (int steps = 0; steps < blocks; steps++) {
                if ((reached & goals) != 0) {
                    return steps;
                }
                reached |= behind(reached);
            }
            return ABSENT;
        }

        int onEveryWay(int block) {
            if (!has(reachable(0, 0), block)) {
                return 0;
            }
            int every = bit(block);
            for (int b = 0; b < blocks; b++) {
                if (!has(reachable(0, bit(b)), block)) {
                    every |= bit(b);
                }
            }
            return every;
        }

        int ringOf(int block) {
            int behind = reachable(block, 0);
            int ring = 0;
            for (int b = 0; b < blocks; b++) {
                if (has(behind, b) && has(reachable(b, 0), block)) {
                    ring |= bit(b);
                }
            }
            return ring;
        }

        /** BLOCKS from which an EDGE leads into the set. */
        private int someInto(int set) {
            int found = 0;
            for (int b = 0; b < blocks; b++) {
                if ((next[b] & set) != 0) {
                    found |= bit(b);
                }
            }
            return found;
        }

        /** BLOCKS with EDGES, all of which lead into the set. */
        private int allInto(int set) {
            int found = 0;
            for (int b = 0; b < blocks; b++) {
                if (next[b] != 0 && (next[b] & ~set) == 0) {
                    found |= bit(b);
                }
            }
            return found;
        }

        /** BLOCKS from which one comes into the set by so many EDGES at most, whatever way is gone. */
        int forcedInto(int set, int most) {
            int forced = set;
            for (int i = 0; i < most && i < blocks; i++) {
                forced |= allInto(forced);
            }
            return forced;
        }

        /** The most EDGES that can be taken from a BLOCK till one is in the set. */
        int longestInto(int block, int set) {
            int forced = set;
            for (int taken = 0; taken < blocks; taken++) {
                if (has(forced, block)) {
                    return taken;
                }
                forced |= allInto(forced);
            }
            return ABSENT;
        }

        /** BLOCKS in which the first of the two wins, if of n EDGES so many are left to take. */
        int winning(int n, int left, int checks) {
            int won = checks;
            for (int k = 1; k <= left; k++) {
                boolean firstTakes = (n - k) % 2 == 0;
                won = checks | (firstTakes ? someInto(won) : allInto(won));
            }
            return won;
        }

        int firstEdgeInto(int block, int set) {
            for (int i = 0; i < MOST_EDGES_FROM; i++) {
                int edge = edgeFrom(block, i);
                if (edge >= 0 && has(set, to[edge])) {
                    return edge;
                }
            }
            return ABSENT;
        }

        int waysTo(int block, int n) {
            for (int b = 0; b < blocks; b++) {
                ways[b] = b == 0 ? 1 : 0;
            }
            for (int i = 0; i < n; i++) {
                lengthenWays();
            }
            return ways[block];
        }

        private void lengthenWays() {
            for (int b = 0; b < blocks; b++) {
                longerWays[b] = 0;
            }
            for (int e = 0; e < edges; e++) {
                longerWays[to[e]] += ways[from[e]];
            }
            System.arraycopy(longerWays, 0, ways, 0, blocks);
        }
    }

    /** The E of each RULE, in the order in which it is worked out. */
    private static final class Laws {
        private static final long MOST_VALUE = 1000000000000L;

        int knots;
        private final Kind[] kinds = new Kind[MOST_KNOTS];
        private final int[] numbers = new int[MOST_KNOTS];
        private final int[] starts = new int[RULES];
        private final int[] ends = new int[RULES];
        private final long[] stack = new long[MOST_KNOTS];
        private int written;
        private int height;

        void clear() {
            knots = 0;
            written = 0;
            for (int rule = 0; rule < RULES; rule++) {
                starts[rule] = 0;
                ends[rule] = 0;
            }
        }

        void copyFrom(Laws other) {
            knots = other.knots;
            System.arraycopy(other.kinds, 0, kinds, 0, MOST_KNOTS);
            System.arraycopy(other.numbers, 0, numbers, 0, MOST_KNOTS);
            System.arraycopy(other.starts, 0, starts, 0, RULES);
            System.arraycopy(other.ends, 0, ends, 0, RULES);
        }

        boolean isTold(int rule) {
            return within(rule, 0, RULES - 1) && ends[rule] > starts[rule];
        }

        void beginRule(int rule) {
            starts[rule] = written;
        }

        void endRule(int rule) {
            ends[rule] = written;
        }

        void write(Kind kind, int number) {
            if (written < MOST_KNOTS) {
                kinds[written] = kind;
                numbers[written] = number;
                written++;
            }
        }

        /** ERROR also, if no such law is told. */
        long value(int rule, long[] names) {
            if (!isTold(rule)) {
                return ERROR;
            }
            height = 0;
            for (int i = starts[rule]; i < ends[rule]; i++) {
                Kind kind = kinds[i];
                if (kind == null) {
                    return ERROR;
                }
                long value;
                if (kind == Kind.NUMBER) {
                    value = numbers[i];
                } else if (kind.role == NAME_WORD) {
                    value = names[kind.rank];
                } else {
                    long right = pop();
                    long left = kind == Kind.NOT ? 0 : pop();
                    value = kind.rank >= RANK_SUM ? reckon(kind, left, right) : compare(kind, left, right);
                }
                if (value == ERROR) {
                    return ERROR;
                }
                push(value);
            }
            return pop();
        }

        private void push(long value) {
            if (height < MOST_KNOTS) {
                stack[height] = value;
                height++;
            }
        }

        private long pop() {
            if (height <= 0) {
                return 0;
            }
            height--;
            return stack[height];
        }

        private static long truth(boolean so) {
            return so ? 1 : 0;
        }

        private static long reckon(Kind kind, long left, long right) {
            switch (kind) {
                case PLUS:
                    return bounded(left + right);
                case MINUS:
                    return bounded(left - right);
                case TIMES:
                    return product(left, right);
                default:
                    return right == 0 ? ERROR : left / right;
            }
        }

        private static long bounded(long value) {
            return Math.abs(value) <= MOST_VALUE ? value : ERROR;
        }

        /** Both are bounded, but the product of two such may be beyond a long. */
        private static long product(long left, long right) {
            boolean fits = right == 0 || Math.abs(left) <= MOST_VALUE / Math.abs(right);
            return fits ? left * right : ERROR;
        }

        private static long compare(Kind kind, long left, long right) {
            switch (kind) {
                case LESS:
                    return truth(left < right);
                case AT_MOST:
                    return truth(left <= right);
                case EQUAL:
                    return truth(left == right);
                case UNLIKE:
                    return truth(left != right);
                case AT_LEAST:
                    return truth(left >= right);
                case MORE:
                    return truth(left > right);
                case NOT:
                    return truth(right == 0);
                case AND:
                    return truth(left != 0 && right != 0);
                default:
                    return truth(left != 0 || right != 0);
            }
        }
    }

    /** All that changes as STEPS go by and by calls, but for NOTES. */
    private static final class Run {
        final int[] signs = new int[MOST_BLOCKS];
        final int[] visits = new int[MOST_BLOCKS];
        int checks;
        int step;
        int place;
        int mark;
        int adjust;
        int total;
        int alarms;
        int jumps;
        int ends;
        long number;

        void begin(Program program) {
            System.arraycopy(program.signs, 0, signs, 0, MOST_BLOCKS);
            for (int b = 0; b < MOST_BLOCKS; b++) {
                visits[b] = 0;
            }
            checks = program.checks;
            step = 0;
            total = 0;
            alarms = 0;
            jumps = 0;
            ends = 0;
            number = program.seed;
            mark = 0;
            place = 0;
            adjust = 0;
            if (program.graph.blocks > 0) {
                standInEntry();
            }
        }

        void standInEntry() {
            place = 0;
            mark = signs[0];
            adjust = 0;
        }

        void copyFrom(Run other) {
            System.arraycopy(other.signs, 0, signs, 0, MOST_BLOCKS);
            System.arraycopy(other.visits, 0, visits, 0, MOST_BLOCKS);
            checks = other.checks;
            step = other.step;
            place = other.place;
            mark = other.mark;
            adjust = other.adjust;
            total = other.total;
            alarms = other.alarms;
            jumps = other.jumps;
            ends = other.ends;
            number = other.number;
        }
    }

    /** STEPS of a Run, in the manner that is set. */
    private static final class Walk {
        private static final int MOST_VISITS = 9999;
        private static final int MOST_TOTAL = 999999;
        private static final int MOST_OUTPUT = 999;
        private static final int LIKELY_ODDS = 50;
        private static final long LOW_31_BITS = 0x7fffffffL;
        private static final int NAMES = 7;

        private final Program program;
        private final long[] names = new long[NAMES];
        private boolean drawing;
        private int jumping;
        private boolean firstEdges;
        private int idle = NONE;

        Walk(Program program) {
            this.program = program;
        }

        void asItGoes() {
            drawing = false;
            jumping = JUMP_BY_ODDS;
            firstEdges = false;
            idle = NONE;
        }

        void byNumbers() {
            asItGoes();
            drawing = true;
        }

        void changeManner(int what, int block) {
            if (what == 0) {
                jumping = JUMP_NEVER;
            } else if (what == 2) {
                idle = block;
            } else if (what == 3) {
                jumping = JUMP_ALWAYS;
            } else if (what == 4) {
                firstEdges = true;
            }
        }

        void steps(Run run, int n) {
            for (int i = 0; i < n; i++) {
                if (program.graph.blocks > 0) {
                    move(run);
                }
                run.step++;
            }
        }

        private void move(Run run) {
            Graph graph = program.graph;
            int edge = graph.edgeFrom(run.place, turning(run));
            if (edge < 0) {
                run.standInEntry();
                run.ends++;
                return;
            }
            run.adjust = graph.adjustment(edge, run.signs, graph.bases);
            int goal = graph.to[edge];
            if (isJump(run)) {
                run.jumps++;
                goal = landing(run);
            }
            enter(run, goal);
        }

        /** Which of the EDGES from where one stands is taken. */
        private int turning(Run run) {
            int count = program.graph.outCount[run.place];
            if (count < 1 || firstEdges) {
                return 0;
            }
            long value = lawAt(TURN, run, run.place);
            return Math.floorMod(value == ERROR ? run.visits[run.place] : value, count);
        }

        private boolean isJump(Run run) {
            if (jumping != JUMP_BY_ODDS) {
                return jumping == JUMP_ALWAYS;
            }
            if (!drawing || program.odds == 0 || program.odds == HUNDRED) {
                return program.odds >= LIKELY_ODDS;
            }
            return draw(run) % HUNDRED < program.odds;
        }

        private int landing(Run run) {
            int blocks = program.graph.blocks;
            if (blocks < 1) {
                return 0;
            }
            long value = lawAt(LAND, run, run.place);
            if (value != ERROR) {
                return Math.floorMod(value, blocks);
            }
            return drawing ? draw(run) % blocks : blocks - 1;
        }

        private static int draw(Run run) {
            run.number = run.number * 1103515245L + 12345L & LOW_31_BITS;
            return (int) (run.number / 65536L);
        }

        /** Whether there is an ALARM. */
        boolean enter(Run run, int block) {
            Graph graph = program.graph;
            run.mark ^= graph.difference(block, run.signs, graph.bases);
            if (graph.isJoin(block)) {
                run.mark ^= run.adjust;
            }
            run.place = block;
            run.visits[block] = Math.min(run.visits[block] + 1, MOST_VISITS);
            int output = outputBy(lawAt(OUT, run, block), block);
            run.total = Math.min(run.total + output, MOST_TOTAL);
            if (!has(run.checks, block) || run.mark == run.signs[block]) {
                return false;
            }
            run.alarms++;
            run.standInEntry();
            return true;
        }

        private int outputBy(long value, int block) {
            return value == ERROR ? workOf(block) : (int) Math.min(Math.max(value, 0L), MOST_OUTPUT);
        }

        private int workOf(int block) {
            return block == idle ? 0 : program.works[block];
        }

        long lawAt(int rule, Run run, int block) {
            names[Kind.WORK.rank] = workOf(block);
            names[Kind.VISITS.rank] = run.visits[block];
            names[Kind.MARK.rank] = run.mark;
            names[Kind.PLACE.rank] = block;
            names[Kind.WAYS.rank] = program.graph.outCount[block];
            names[Kind.TOTAL.rank] = run.total;
            names[Kind.STEP.rank] = run.step;
            return program.laws.value(rule, names);
        }
    }

    /**
     * SLIPS by a row of SIGNS and a row of BASES, which may be tried ones. Along EDGES the unlike bits
     * of MARK and SIGN stay the same, so a CHECK sees a SLIP that doesn't LOOK RIGHT wherever it is met.
     */
    private static final class Slips {
        private static final int MOST_CHOICES = 65536;

        final Graph graph;
        final int[] signs = new int[MOST_BLOCKS];
        private final int[] bases = new int[MOST_BLOCKS];
        private final int[] choice = new int[MOST_BLOCKS];

        Slips(Graph graph) {
            this.graph = graph;
        }

        void take(int[] someSigns) {
            System.arraycopy(someSigns, 0, signs, 0, MOST_BLOCKS);
            System.arraycopy(graph.bases, 0, bases, 0, MOST_BLOCKS);
        }

        int markOf(int edge, int block) {
            int right = signs[graph.from[edge]];
            int mark = right ^ graph.difference(block, signs, bases);
            return graph.isJoin(block) ? mark ^ graph.adjustment(edge, signs, bases) : mark;
        }

        boolean looksRight(int edge, int block) {
            return markOf(edge, block) == signs[block];
        }

        int howMany() {
            return graph.edges * (graph.blocks - 1);
        }

        int lookingRight() {
            int count = 0;
            for (int b = 0; b < graph.blocks; b++) {
                count += lookingRightIn(b);
            }
            return count;
        }

        private int lookingRightIn(int block) {
            int count = 0;
            for (int e = 0; e < graph.edges; e++) {
                if (graph.to[e] != block && looksRight(e, block)) {
                    count++;
                }
            }
            return count;
        }

        int latestAlarm(int edge, int block, int checks) {
            int taken = looksRight(edge, block) ? ABSENT : graph.longestInto(block, checks);
            return taken < 0 ? ABSENT : taken + 1;
        }

        int earliestAlarm(int edge, int block, int checks) {
            int taken = looksRight(edge, block) ? ABSENT : graph.distance(block, checks);
            return taken < 0 ? ABSENT : taken + 1;
        }

        int statesBehind(int edge, int block, int checks) {
            int shut = looksRight(edge, block) ? 0 : checks;
            int left = graph.reachable(block, shut) & ~shut;
            int landed = graph.adjustment(edge, signs, bases);
            int states = 1;
            for (int e = 0; e < graph.edges; e++) {
                boolean landing = graph.to[e] == block && graph.adjustment(e, signs, bases) == landed;
                if (has(left, graph.from[e]) && !landing && !isStateOfEarlier(e, left)) {
                    states++;
                }
            }
            return states;
        }

        private boolean isStateOfEarlier(int edge, int left) {
            int adjust = graph.adjustment(edge, signs, bases);
            for (int e = 0; e < edge; e++) {
                boolean taken = has(left, graph.from[e]) && graph.to[e] == graph.to[edge];
                if (taken && graph.adjustment(e, signs, bases) == adjust) {
                    return true;
                }
            }
            return false;
        }

        /** SLIPS to BLOCKS of the set that don't LOOK RIGHT. */
        private int lookingWrongIn(int set) {
            int count = 0;
            for (int b = 0; b < graph.blocks; b++) {
                if (has(set, b)) {
                    count += graph.edges - graph.inCount[b] - lookingRightIn(b);
                }
            }
            return count;
        }

        int caughtWithin(int limit, int checks) {
            return lookingWrongIn(graph.forcedInto(checks, limit - 1));
        }

        int fewestChecks(int limit) {
            int due = 0;
            for (int b = 0; b < graph.blocks; b++) {
                if (lookingWrongIn(bit(b)) > 0) {
                    due |= bit(b);
                }
            }
            int fewest = bit(graph.blocks) - 1;
            for (int set = bit(graph.blocks) - 1; set >= 0; set--) {
                boolean fewer = Integer.bitCount(set) <= Integer.bitCount(fewest);
                if (fewer && (due & ~graph.forcedInto(set, limit - 1)) == 0) {
                    fewest = set;
                }
            }
            return fewest;
        }

        int fewestLookingRight() {
            for (int b = 0; b < graph.blocks; b++) {
                choice[b] = NONE;
                chooseNext(b);
            }
            int fewest = lookingRight();
            for (int i = 0; i < MOST_CHOICES && chooseOther(); i++) {
                fewest = Math.min(fewest, lookingRight());
            }
            return fewest;
        }

        /** The next way to choose BASES; false behind the last one. */
        private boolean chooseOther() {
            for (int b = 0; b < graph.blocks; b++) {
                if (chooseNext(b)) {
                    return true;
                }
                choice[b] = NONE;
                chooseNext(b);
            }
            return false;
        }

        /** The BASE of a BLOCK by the next EDGE that leads to it. */
        private boolean chooseNext(int block) {
            for (int e = choice[block] + 1; e < graph.edges; e++) {
                if (graph.to[e] == block) {
                    choice[block] = e;
                    bases[block] = graph.from[e];
                    return true;
                }
            }
            return false;
        }
    }

    /** NOTES, what is KNOWN by them, and what to ask. */
    private static final class Notebook {
        private static final int MARKS = 256;

        int written;
        int askedEdge;
        int askedBlock;
        int leftAtWorst;
        private int knownBy = NONE;
        private final Slips slips;
        private final int[] edges = new int[MOST_NOTES];
        private final int[] blocks = new int[MOST_NOTES];
        private final boolean[] right = new boolean[MOST_NOTES];
        private final int[] struck = new int[MOST_NOTES];
        private final int[] answers = new int[MARKS];

        Notebook(Slips slips) {
            this.slips = slips;
        }

        void clear() {
            written = 0;
            knownBy = NONE;
        }

        int write(int edge, int block, boolean looksRight) {
            if (written >= MOST_NOTES) {
                return NONE;
            }
            edges[written] = edge;
            blocks[written] = block;
            right[written] = looksRight;
            struck[written] = NONE;
            written++;
            return written - 1;
        }

        int writeStrike(int note) {
            if (written >= MOST_NOTES || note < 0 || note >= written) {
                return NONE;
            }
            struck[written] = note;
            written++;
            return written - 1;
        }

        boolean knowBy(int n) {
            if (!within(n, NONE, written)) {
                return false;
            }
            knownBy = n;
            return true;
        }

        int howManyKnown() {
            return knownBy < 0 ? written : knownBy;
        }

        /** The NOTES (bits) that are KNOWN, those that strike with. */
        private int standing() {
            int left = bit(howManyKnown()) - 1;
            for (int i = howManyKnown() - 1; i >= 0; i--) {
                if (has(left, i) && struck[i] >= 0) {
                    left &= ~bit(struck[i]);
                }
            }
            return left;
        }

        /** By the SIGNS that the SLIPS have taken. */
        int signsLeft(int block) {
            int standing = standing();
            int own = slips.signs[block];
            int left = 0;
            for (int sign = 0; sign < SIGNS_ASKED; sign++) {
                slips.signs[block] = sign;
                if (allSo(standing)) {
                    left |= bit(sign);
                }
            }
            slips.signs[block] = own;
            return left;
        }

        private boolean allSo(int standing) {
            for (int i = 0; i < written; i++) {
                boolean tells = has(standing, i) && struck[i] < 0;
                if (tells && slips.looksRight(edges[i], blocks[i]) != right[i]) {
                    return false;
                }
            }
            return true;
        }

        /** False, if there are no SLIPS. */
        boolean findQuestion(int block) {
            int left = signsLeft(block);
            Graph graph = slips.graph;
            boolean found = false;
            for (int e = 0; e < graph.edges; e++) {
                for (int b = 0; b < graph.blocks; b++) {
                    if (graph.to[e] == b) {
                        continue;
                    }
                    int worst = mostOfOneAnswer(e, b, block, left);
                    if (!found || worst < leftAtWorst) {
                        askedEdge = e;
                        askedBlock = b;
                        leftAtWorst = worst;
                        found = true;
                    }
                }
            }
            return found;
        }

        private int mostOfOneAnswer(int edge, int goal, int block, int left) {
            int own = slips.signs[block];
            int most = 0;
            for (int mark = 0; mark < MARKS; mark++) {
                answers[mark] = 0;
            }
            for (int sign = 0; sign < SIGNS_ASKED; sign++) {
                if (has(left, sign)) {
                    slips.signs[block] = sign;
                    int mark = slips.markOf(edge, goal) & MARKS - 1;
                    answers[mark]++;
                    most = Math.max(most, answers[mark]);
                }
            }
            slips.signs[block] = own;
            return most;
        }
    }

    /** What can be undone, the latest last, and the IMAGE. */
    private static final class History {
        int undoable;
        private final Run[] before = new Run[MOST_UNDONE];
        private final Run image = new Run();
        private boolean kept;
        private int top;

        History() {
            for (int i = 0; i < MOST_UNDONE; i++) {
                before[i] = new Run();
            }
        }

        void clear() {
            undoable = 0;
            kept = false;
        }

        void forgetUndone() {
            undoable = 0;
        }

        /** As it is ahead of a call; the oldest makes room for a twenty-first. */
        void remember(Run run) {
            top = (top + 1) % MOST_UNDONE;
            Run room = before[top];
            if (room != null) {
                room.copyFrom(run);
                undoable = Math.min(undoable + 1, MOST_UNDONE);
            }
        }

        int undoLatest(Run run) {
            Run latest = before[top];
            if (undoable == 0 || latest == null) {
                return NONE;
            }
            run.copyFrom(latest);
            top = (top + MOST_UNDONE - 1) % MOST_UNDONE;
            undoable--;
            return undoable;
        }

        void keepImage(Run run) {
            image.copyFrom(run);
            kept = true;
        }

        boolean returnToImage(Run run) {
            if (!kept) {
                return false;
            }
            run.copyFrom(image);
            undoable = 0;
            return true;
        }
    }
}
