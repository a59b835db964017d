import java.util.ArrayList;
import java.util.Arrays;
import java.util.HashMap;
import java.util.HashSet;
import java.util.List;
import java.util.Map;
import java.util.NoSuchElementException;
import java.util.Set;

/**
 * The document told a second time, as plainly as can be and without thought of cost: trees for E, STATES gone
 * through one by one, every way tried. It shares no code with MarkGuards.
 */
final class Model {
    /** A fault of a text. */
    private static final class Fault extends RuntimeException {
        private static final long serialVersionUID = 1L;
        final int code;
        final int place;

        Fault(int code, int place) {
            this.code = code;
            this.place = place;
        }
    }

    /** An ERROR of E. */
    private static final class Wrong extends RuntimeException {
        private static final long serialVersionUID = 1L;
    }

    private interface Ex {
        long at(Map<String, Long> names);
    }

    private static final class Block {
        String name;
        int sign;
        int work;
        boolean check;
        Integer base;
    }

    private static final class Prog {
        final List<Block> blocks = new ArrayList<>();
        final List<int[]> edges = new ArrayList<>();
        final Map<String, Integer> settings = new HashMap<>();
        final Map<String, Ex> laws = new HashMap<>();
        int knots;
        int lines;

        int find(String name) {
            for (int i = 0; i < blocks.size(); i++) {
                if (blocks.get(i).name.equals(name)) {
                    return i;
                }
            }
            return -1;
        }

        List<Integer> edgesFrom(int block) {
            List<Integer> found = new ArrayList<>();
            for (int e = 0; e < edges.size(); e++) {
                if (edges.get(e)[0] == block) {
                    found.add(e);
                }
            }
            return found;
        }

        List<Integer> edgesTo(int block) {
            List<Integer> found = new ArrayList<>();
            for (int e = 0; e < edges.size(); e++) {
                if (edges.get(e)[1] == block) {
                    found.add(e);
                }
            }
            return found;
        }

        boolean hasEdge(int from, int to) {
            for (int[] e : edges) {
                if (e[0] == from && e[1] == to) {
                    return true;
                }
            }
            return false;
        }

        int setting(String name, int otherwise) {
            return settings.getOrDefault(name, otherwise);
        }

        Integer baseOf(int block) {
            if (blocks.get(block).base != null) {
                return blocks.get(block).base;
            }
            return edgesTo(block).isEmpty() ? null : (Integer) edges.get(edgesTo(block).get(0))[0];
        }

        Integer[] allBases() {
            Integer[] bases = new Integer[blocks.size()];
            for (int b = 0; b < bases.length; b++) {
                bases[b] = baseOf(b);
            }
            return bases;
        }

        boolean join(int block) {
            return edgesTo(block).size() >= 2;
        }
    }

    /** Reads a text by going down the grammar. */
    private static final class Parser {
        private static final List<String> WORDS = Arrays.asList("block", "edge", "check", "base", "limit", "jump",
            "seed", "law", "out", "turn", "land", "or", "and", "not", "work", "visits", "mark", "place", "ways",
            "total", "step");
        private static final List<String> NAMES =
            Arrays.asList("work", "visits", "mark", "place", "ways", "total", "step");
        private static final List<String> COMPARISONS = Arrays.asList("<", "<=", "=", "<>", ">=", ">");

        private final int[] bytes;
        private final Prog prog = new Prog();
        private int at;
        private int place;
        private String token;
        private int open;

        Parser(int[] bytes) {
            this.bytes = bytes;
        }

        Prog parse() {
            advance();
            while (token != null) {
                line();
                want(";");
                prog.lines++;
            }
            return prog;
        }

        private void advance() {
            while (at < bytes.length && (bytes[at] == 10 || bytes[at] == 32)) {
                at++;
            }
            place = at;
            if (at == bytes.length) {
                token = null;
                return;
            }
            StringBuilder text = new StringBuilder();
            if (letter(at)) {
                while (at < bytes.length && letter(at)) {
                    text.append((char) bytes[at++]);
                }
            } else if (digit(at)) {
                while (at < bytes.length && digit(at)) {
                    text.append((char) bytes[at++]);
                }
            } else {
                text.append((char) bytes[at++]);
                if (at < bytes.length && (text.charAt(0) == '<' || text.charAt(0) == '>')) {
                    String two = text.toString() + (char) bytes[at];
                    if (two.equals("<=") || two.equals(">=") || two.equals("<>")) {
                        text.append((char) bytes[at++]);
                    }
                }
            }
            token = text.toString();
        }

        private boolean letter(int i) {
            return bytes[i] >= 97 && bytes[i] <= 122;
        }

        private boolean digit(int i) {
            return bytes[i] >= 48 && bytes[i] <= 57;
        }

        private Fault fault(int code) {
            return new Fault(code, place);
        }

        private boolean is(String text) {
            return text.equals(token);
        }

        private void want(String text) {
            if (!is(text)) {
                throw fault(1);
            }
            advance();
        }

        private void line() {
            String word = token;
            switch (word) {
                case "block":
                    blockLine();
                    break;
                case "edge":
                    edgeLine();
                    break;
                case "check":
                    advance();
                    Block checked = prog.blocks.get(told());
                    if (checked.check) {
                        throw fault(3);
                    }
                    checked.check = true;
                    advance();
                    break;
                case "base":
                    baseLine();
                    break;
                case "limit":
                    setting(word, 1, 40);
                    break;
                case "jump":
                    setting(word, 0, 100);
                    break;
                case "seed":
                    setting(word, 0, 99999);
                    break;
                case "law":
                    lawLine();
                    break;
                default:
                    throw fault(1);
            }
        }

        private String ownWord() {
            if (token == null || !token.matches("[a-z]{1,6}") || WORDS.contains(token)) {
                throw fault(1);
            }
            return token;
        }

        private int told() {
            int found = prog.find(ownWord());
            if (found < 0) {
                throw fault(4);
            }
            return found;
        }

        private int number(int least, int most) {
            if (token == null || !token.matches("[0-9]+")) {
                throw fault(1);
            }
            java.math.BigInteger value = new java.math.BigInteger(token);
            if (value.compareTo(java.math.BigInteger.valueOf(least)) < 0
                || value.compareTo(java.math.BigInteger.valueOf(most)) > 0) {
                throw fault(2);
            }
            advance();
            return value.intValue();
        }

        private void blockLine() {
            if (prog.blocks.size() == 8) {
                throw fault(2);
            }
            advance();
            Block block = new Block();
            block.name = ownWord();
            if (prog.find(block.name) >= 0) {
                throw fault(3);
            }
            advance();
            block.sign = number(0, 255);
            block.work = number(0, 99);
            prog.blocks.add(block);
        }

        private void edgeLine() {
            if (prog.edges.size() == 16) {
                throw fault(2);
            }
            advance();
            int from = told();
            if (prog.edgesFrom(from).size() == 3) {
                throw fault(2);
            }
            advance();
            int to = told();
            if (prog.hasEdge(from, to)) {
                throw fault(3);
            }
            advance();
            prog.edges.add(new int[] {from, to});
        }

        private void baseLine() {
            advance();
            int block = told();
            if (prog.blocks.get(block).base != null) {
                throw fault(3);
            }
            advance();
            int base = told();
            if (!prog.hasEdge(base, block)) {
                throw fault(5);
            }
            advance();
            prog.blocks.get(block).base = base;
        }

        private void setting(String word, int least, int most) {
            if (prog.settings.containsKey(word)) {
                throw fault(3);
            }
            advance();
            prog.settings.put(word, number(least, most));
        }

        private void lawLine() {
            advance();
            String rule = token;
            if (!is("out") && !is("turn") && !is("land")) {
                throw fault(1);
            }
            if (prog.laws.containsKey(rule)) {
                throw fault(3);
            }
            advance();
            open = 0;
            prog.laws.put(rule, anyOf());
        }

        private void knot() {
            if (prog.knots == 64) {
                throw fault(2);
            }
            prog.knots++;
        }

        private Ex anyOf() {
            Ex left = allOf();
            while (is("or")) {
                knot();
                advance();
                Ex a = left;
                Ex b = allOf();
                left = n -> {
                    long x = a.at(n);
                    long y = b.at(n);
                    return x != 0 || y != 0 ? 1 : 0;
                };
            }
            return left;
        }

        private Ex allOf() {
            Ex left = negated();
            while (is("and")) {
                knot();
                advance();
                Ex a = left;
                Ex b = negated();
                left = n -> {
                    long x = a.at(n);
                    long y = b.at(n);
                    return x != 0 && y != 0 ? 1 : 0;
                };
            }
            return left;
        }

        private Ex negated() {
            if (is("not")) {
                knot();
                advance();
                Ex a = negated();
                return n -> a.at(n) == 0 ? 1 : 0;
            }
            return compared();
        }

        private Ex compared() {
            Ex a = sum();
            if (!COMPARISONS.contains(token)) {
                return a;
            }
            String op = token;
            knot();
            advance();
            Ex b = sum();
            return n -> {
                int c = Long.compare(a.at(n), b.at(n));
                boolean so = op.equals("<") ? c < 0 : op.equals("<=") ? c <= 0 : op.equals("=") ? c == 0
                    : op.equals("<>") ? c != 0 : op.equals(">=") ? c >= 0 : c > 0;
                return so ? 1 : 0;
            };
        }

        private Ex sum() {
            Ex left = product();
            while (is("+") || is("-")) {
                boolean plus = is("+");
                knot();
                advance();
                Ex a = left;
                Ex b = product();
                left = n -> checked(java.math.BigInteger.valueOf(a.at(n))
                    .add(java.math.BigInteger.valueOf(plus ? b.at(n) : -b.at(n))));
            }
            return left;
        }

        private Ex product() {
            Ex left = part();
            while (is("*") || is("/")) {
                boolean times = is("*");
                knot();
                advance();
                Ex a = left;
                Ex b = part();
                left = n -> {
                    java.math.BigInteger x = java.math.BigInteger.valueOf(a.at(n));
                    java.math.BigInteger y = java.math.BigInteger.valueOf(b.at(n));
                    if (!times && y.signum() == 0) {
                        throw new Wrong();
                    }
                    return checked(times ? x.multiply(y) : x.divide(y));
                };
            }
            return left;
        }

        private static long checked(java.math.BigInteger value) {
            if (value.abs().compareTo(java.math.BigInteger.TEN.pow(12)) > 0) {
                throw new Wrong();
            }
            return value.longValue();
        }

        private Ex part() {
            if (is("(")) {
                if (open == 8) {
                    throw fault(2);
                }
                open++;
                advance();
                Ex inside = anyOf();
                want(")");
                open--;
                return inside;
            }
            if (NAMES.contains(token)) {
                String name = token;
                knot();
                advance();
                return n -> n.get(name);
            }
            if (token != null && token.matches("[0-9]+") && prog.knots == 64) {
                throw fault(2);
            }
            long value = number(0, 9999);
            prog.knots++;
            return n -> value;
        }
    }

    /** What goes on. */
    private static final class State {
        int[] sign;
        boolean[] check;
        int[] visits;
        int step;
        int at;
        int mark;
        int adjust;
        int total;
        int alarms;
        int jumps;
        int ends;
        long number;

        State copy() {
            State s = new State();
            s.sign = sign.clone();
            s.check = check.clone();
            s.visits = visits.clone();
            s.step = step;
            s.at = at;
            s.mark = mark;
            s.adjust = adjust;
            s.total = total;
            s.alarms = alarms;
            s.jumps = jumps;
            s.ends = ends;
            s.number = number;
            return s;
        }

        void entry() {
            at = 0;
            mark = sign[0];
            adjust = 0;
        }
    }

    private static final class Note {
        int edge;
        int block;
        boolean right;
        int strikes = -1;
    }

    private Prog prog = new Prog();
    private State now = start(prog);
    private final List<Integer> tape = new ArrayList<>();
    private int faultCode = 0;
    private int faultPlace = -1;
    private final List<State> undos = new ArrayList<>();
    private State image = null;
    private final List<Note> notes = new ArrayList<>();
    private int knownBy = -1;

    private static State start(Prog prog) {
        State s = new State();
        int n = prog.blocks.size();
        s.sign = new int[n];
        s.check = new boolean[n];
        s.visits = new int[n];
        for (int b = 0; b < n; b++) {
            s.sign[b] = prog.blocks.get(b).sign;
            s.check[b] = prog.blocks.get(b).check;
        }
        s.number = prog.setting("seed", 0);
        if (n > 0) {
            s.entry();
        }
        return s;
    }

    private boolean isBlock(int b) {
        return b >= 0 && b < prog.blocks.size();
    }

    private boolean isEdge(int e) {
        return e >= 0 && e < prog.edges.size();
    }

    private boolean isSlip(int e, int b) {
        return isEdge(e) && isBlock(b) && prog.edges.get(e)[1] != b;
    }

    int feed(int a, int b, int c, int d, int e) {
        if (tape.size() + 20 > 700) {
            return -1;
        }
        for (int word : new int[] {a, b, c, d, e}) {
            tape.add(word >>> 24);
            tape.add(word >>> 16 & 255);
            tape.add(word >>> 8 & 255);
            tape.add(word & 255);
        }
        return tape.size();
    }

    int text(int n) {
        if (n < 0 || n > tape.size()) {
            return -2;
        }
        int[] bytes = new int[n];
        for (int i = 0; i < n; i++) {
            bytes[i] = tape.get(i);
        }
        tape.clear();
        try {
            prog = new Parser(bytes).parse();
        } catch (Fault f) {
            faultCode = f.code;
            faultPlace = f.place;
            return -1;
        }
        faultCode = 0;
        faultPlace = -1;
        now = start(prog);
        undos.clear();
        image = null;
        notes.clear();
        knownBy = -1;
        return prog.lines;
    }

    int fault(int what) {
        return what == 0 ? faultCode : what == 1 ? faultPlace : -1;
    }

    int named(int letters) {
        for (int b = 0; b < prog.blocks.size(); b++) {
            String name = prog.blocks.get(b).name;
            int packed = 0;
            for (int i = 0; i < 6; i++) {
                packed = packed * 32 + (i < name.length() ? name.charAt(i) - 96 : 0);
            }
            if (packed == letters) {
                return b;
            }
        }
        return -1;
    }

    int block(int b, int what) {
        if (!isBlock(b)) {
            throw new IndexOutOfBoundsException();
        }
        switch (what) {
            case 0:
                return now.sign[b];
            case 1:
                return prog.blocks.get(b).work;
            case 2:
                return now.check[b] ? 1 : 0;
            case 3:
                return now.visits[b];
            case 4:
                return prog.edgesFrom(b).size();
            case 5:
                return prog.edgesTo(b).size();
            default:
                throw new NoSuchElementException();
        }
    }

    int edge(int e, int what) {
        if (!isEdge(e) || what < 0 || what > 2) {
            return -1;
        }
        return what < 2 ? prog.edges.get(e)[what] : adjustOf(e, now.sign, prog.allBases());
    }

    int base(int b) {
        return !isBlock(b) ? -1 : prog.baseOf(b) == null ? -2 : prog.baseOf(b);
    }

    int diff(int b) {
        return isBlock(b) ? diffOf(b, now.sign, prog.allBases()) : -1;
    }

    private int diffOf(int b, int[] sign, Integer[] bases) {
        return bases[b] == null ? sign[b] : sign[bases[b]] ^ sign[b];
    }

    private int adjustOf(int e, int[] sign, Integer[] bases) {
        int from = prog.edges.get(e)[0];
        int to = prog.edges.get(e)[1];
        return prog.join(to) ? sign[bases[to]] ^ sign[from] : 0;
    }

    /** How a walk goes: numbers or not, JUMPS never, always or as told, the first EDGES alone, a BLOCK without WORK. */
    private static final class Manner {
        boolean numbers;
        Boolean jumps;
        boolean first;
        int idle = -1;
    }

    private Long lawAt(String rule, State s, int b, Manner m) {
        Ex law = prog.laws.get(rule);
        if (law == null) {
            return null;
        }
        Map<String, Long> names = new HashMap<>();
        names.put("work", (long) (b == m.idle ? 0 : prog.blocks.get(b).work));
        names.put("visits", (long) s.visits[b]);
        names.put("mark", (long) s.mark);
        names.put("place", (long) b);
        names.put("ways", (long) prog.edgesFrom(b).size());
        names.put("total", (long) s.total);
        names.put("step", (long) s.step);
        try {
            return law.at(names);
        } catch (Wrong w) {
            return null;
        }
    }

    long law(int what, int b) {
        if (what < 0 || what > 2 || !isBlock(b)) {
            return Long.MIN_VALUE;
        }
        Long value = lawAt(new String[] {"out", "turn", "land"}[what], now, b, new Manner());
        return value == null ? Long.MIN_VALUE : value;
    }

    private boolean enter(State s, int b, Manner m) {
        Integer[] bases = prog.allBases();
        s.mark = s.mark ^ diffOf(b, s.sign, bases) ^ (prog.join(b) ? s.adjust : 0);
        s.at = b;
        if (s.visits[b] < 9999) {
            s.visits[b]++;
        }
        Long out = lawAt("out", s, b, m);
        long more = out == null ? (b == m.idle ? 0 : prog.blocks.get(b).work) : out < 0 ? 0 : out > 999 ? 999 : out;
        s.total = (int) (s.total + more > 999999 ? 999999 : s.total + more);
        if (s.check[b] && s.mark != s.sign[b]) {
            s.alarms++;
            s.entry();
            return true;
        }
        return false;
    }

    private int draw(State s) {
        s.number = (s.number * 1103515245L + 12345L) % 2147483648L;
        return (int) (s.number / 65536);
    }

    private int rest(long value, int by) {
        long r = value % by;
        return (int) (r < 0 ? r + by : r);
    }

    private void step(State s, Manner m) {
        int n = prog.blocks.size();
        if (n > 0) {
            List<Integer> from = prog.edgesFrom(s.at);
            if (from.isEmpty()) {
                s.entry();
                s.ends++;
            } else {
                Long turn = lawAt("turn", s, s.at, m);
                int index = m.first ? 0 : rest(turn == null ? s.visits[s.at] : turn, from.size());
                int e = from.get(index);
                s.adjust = adjustOf(e, s.sign, prog.allBases());
                int goal = prog.edges.get(e)[1];
                if (jumps(s, m)) {
                    s.jumps++;
                    Long land = lawAt("land", s, s.at, m);
                    goal = land != null ? rest(land, n) : m.numbers ? draw(s) % n : n - 1;
                }
                enter(s, goal, m);
            }
        }
        s.step++;
    }

    private boolean jumps(State s, Manner m) {
        int odds = prog.setting("jump", 0);
        if (m.jumps != null) {
            return m.jumps;
        }
        if (!m.numbers) {
            return odds >= 50;
        }
        return odds == 100 || odds > 0 && draw(s) % 100 < odds;
    }

    private void remember() {
        undos.add(now.copy());
        if (undos.size() > 20) {
            undos.remove(0);
        }
    }

    boolean jump(int b) {
        if (!isBlock(b)) {
            return false;
        }
        remember();
        now.jumps++;
        return !enter(now, b, new Manner());
    }

    int check(int b) {
        if (!isBlock(b)) {
            return -1;
        }
        remember();
        now.check[b] = !now.check[b];
        return now.check[b] ? 1 : 0;
    }

    int sign(int b, int sign) {
        if (!isBlock(b) || sign < 0 || sign > 255) {
            return -1;
        }
        remember();
        int was = now.sign[b];
        now.sign[b] = sign;
        return was;
    }

    int go(int n) {
        if (n < 0 || n > 200 || now.step + n > 9800) {
            return -1;
        }
        Manner m = new Manner();
        m.numbers = true;
        for (int i = 0; i < n; i++) {
            step(now, m);
            undos.clear();
        }
        return now.step;
    }

    int ahead(int n, int what) {
        if (n < 0 || n > 200 || what < 0 || what > 4) {
            return -1;
        }
        State s = now.copy();
        for (int i = 0; i < n; i++) {
            step(s, new Manner());
        }
        switch (what) {
            case 0:
                return prog.blocks.isEmpty() ? -2 : s.at;
            case 1:
                return s.mark;
            case 2:
                return s.total - now.total;
            case 3:
                return s.alarms - now.alarms;
            default:
                return s.jumps - now.jumps;
        }
    }

    int comes(int b) {
        if (!isBlock(b)) {
            return -1;
        }
        State s = now.copy();
        for (int i = 0; i < 200; i++) {
            if (s.at == b) {
                return i;
            }
            step(s, new Manner());
        }
        return -2;
    }

    private int slipMark(int e, int b, int[] sign, Integer[] bases) {
        int mark = sign[prog.edges.get(e)[0]];
        return mark ^ diffOf(b, sign, bases) ^ (prog.join(b) ? adjustOf(e, sign, bases) : 0);
    }

    int slip(int e, int b) {
        return isSlip(e, b) ? slipMark(e, b, now.sign, prog.allBases()) : -1;
    }

    /** A STATE: BLOCK, MARK, ADJUST. */
    private List<Integer> landed(int e, int b) {
        return Arrays.asList(b, slip(e, b), adjustOf(e, now.sign, prog.allBases()));
    }

    private List<List<Integer>> behind(List<Integer> state) {
        Integer[] bases = prog.allBases();
        List<List<Integer>> found = new ArrayList<>();
        for (int e : prog.edgesFrom(state.get(0))) {
            int to = prog.edges.get(e)[1];
            int adjust = adjustOf(e, now.sign, bases);
            int mark = state.get(1) ^ diffOf(to, now.sign, bases) ^ (prog.join(to) ? adjust : 0);
            found.add(Arrays.asList(to, mark, adjust));
        }
        return found;
    }

    private boolean alarmed(List<Integer> state, boolean[] check) {
        return check[state.get(0)] && state.get(1) != now.sign[state.get(0)];
    }

    /** The most STEPS till an ALARM, -2 for never; a STATE on the way to itself goes on for ever. */
    private int latest(List<Integer> state, boolean[] check, Set<List<Integer>> way, Map<List<Integer>, Integer> worked) {
        if (alarmed(state, check)) {
            return 0;
        }
        if (way.contains(state)) {
            return -2;
        }
        if (worked.containsKey(state)) {
            return worked.get(state);
        }
        way.add(state);
        List<List<Integer>> next = behind(state);
        int most = next.isEmpty() ? -2 : 0;
        for (List<Integer> n : next) {
            int steps = latest(n, check, way, worked);
            most = steps < 0 || most < 0 ? -2 : Math.max(most, steps + 1);
        }
        way.remove(state);
        // a STATE from which a ring without an ALARM can be come to is never CAUGHT, so this holds wherever it is met
        worked.put(state, most);
        return most;
    }

    private int caughtBy(int e, int b, boolean[] check) {
        int most = latest(landed(e, b), check, new HashSet<>(), new HashMap<>());
        return most < 0 ? -2 : most + 1;
    }

    int caught(int e, int b) {
        return isSlip(e, b) ? caughtBy(e, b, now.check) : -1;
    }

    int soonest(int e, int b) {
        if (!isSlip(e, b)) {
            return -1;
        }
        Set<List<Integer>> seen = new HashSet<>();
        List<List<Integer>> front = new ArrayList<>();
        front.add(landed(e, b));
        for (int steps = 1; !front.isEmpty(); steps++) {
            List<List<Integer>> next = new ArrayList<>();
            for (List<Integer> s : front) {
                if (alarmed(s, now.check)) {
                    return steps;
                }
                if (seen.add(s)) {
                    next.addAll(behind(s));
                }
            }
            front = next;
        }
        return -2;
    }

    int beyond(int e, int b) {
        if (!isSlip(e, b)) {
            return -1;
        }
        Set<List<Integer>> seen = new HashSet<>();
        List<List<Integer>> left = new ArrayList<>();
        left.add(landed(e, b));
        while (!left.isEmpty()) {
            List<Integer> s = left.remove(left.size() - 1);
            if (seen.add(s) && !alarmed(s, now.check)) {
                left.addAll(behind(s));
            }
        }
        return seen.size();
    }

    private List<int[]> allSlips() {
        List<int[]> all = new ArrayList<>();
        for (int e = 0; e < prog.edges.size(); e++) {
            for (int b = 0; b < prog.blocks.size(); b++) {
                if (isSlip(e, b)) {
                    all.add(new int[] {e, b});
                }
            }
        }
        return all;
    }

    private int lookRight(Integer[] bases) {
        int count = 0;
        for (int[] s : allSlips()) {
            count += slipMark(s[0], s[1], now.sign, bases) == now.sign[s[1]] ? 1 : 0;
        }
        return count;
    }

    private int caughtInLimit(boolean[] check) {
        int count = 0;
        for (int[] s : allSlips()) {
            int steps = caughtBy(s[0], s[1], check);
            count += steps > 0 && steps <= prog.setting("limit", 10) ? 1 : 0;
        }
        return count;
    }

    int cover(int what) {
        switch (what) {
            case 0:
                return allSlips().size();
            case 1:
                return lookRight(prog.allBases());
            case 2:
                return caughtInLimit(now.check);
            case 3:
                int never = 0;
                for (int[] s : allSlips()) {
                    never += caughtBy(s[0], s[1], now.check) == -2 ? 1 : 0;
                }
                return never;
            default:
                return -1;
        }
    }

    private boolean[] checksOf(int bits) {
        boolean[] check = new boolean[prog.blocks.size()];
        for (int b = 0; b < check.length; b++) {
            check[b] = (bits >> b & 1) == 1;
        }
        return check;
    }

    int checks(int what) {
        if (what < 0 || what > 1) {
            return -1;
        }
        int n = prog.blocks.size();
        int due = caughtInLimit(checksOf((1 << n) - 1));
        for (int size = 0; size <= n; size++) {
            for (int bits = 0; bits < 1 << n; bits++) {
                if (Integer.bitCount(bits) == size && caughtInLimit(checksOf(bits)) == due) {
                    return what == 0 ? bits : due;
                }
            }
        }
        throw new AssertionError();
    }

    int bases() {
        return fewest(0, new Integer[prog.blocks.size()]);
    }

    private int fewest(int b, Integer[] bases) {
        if (b == bases.length) {
            return lookRight(bases);
        }
        List<Integer> to = prog.edgesTo(b);
        if (to.isEmpty()) {
            return fewest(b + 1, bases);
        }
        int least = Integer.MAX_VALUE;
        for (int e : to) {
            bases[b] = prog.edges.get(e)[0];
            least = Math.min(least, fewest(b + 1, bases));
        }
        return least;
    }

    /** All ways without a BLOCK twice; what is on each of them is on each way at all. */
    private void everyWay(int at, int goal, int been, List<Integer> found) {
        if (at == goal) {
            found.add(been);
            return;
        }
        for (int e : prog.edgesFrom(at)) {
            int to = prog.edges.get(e)[1];
            if ((been >> to & 1) == 0) {
                everyWay(to, goal, been | 1 << to, found);
            }
        }
    }

    private List<Integer> waysBetween(int from, int to) {
        List<Integer> found = new ArrayList<>();
        everyWay(from, to, 1 << from, found);
        return found;
    }

    int only(int b) {
        if (!isBlock(b)) {
            return -1;
        }
        List<Integer> ways = waysBetween(0, b);
        int all = -1;
        for (int w : ways) {
            all &= w;
        }
        return ways.isEmpty() ? 0 : all;
    }

    int far(int from, int to) {
        if (!isBlock(from) || !isBlock(to)) {
            return -1;
        }
        int least = -2;
        for (int w : waysBetween(from, to)) {
            int edges = Integer.bitCount(w) - 1;
            least = least < 0 ? edges : Math.min(least, edges);
        }
        return least;
    }

    int ring(int b) {
        if (!isBlock(b)) {
            return -1;
        }
        int bits = 0;
        for (int c = 0; c < prog.blocks.size(); c++) {
            bits |= far(b, c) >= 0 && far(c, b) >= 0 ? 1 << c : 0;
        }
        return bits;
    }

    int nearest(int b) {
        if (!isBlock(b)) {
            return -1;
        }
        int least = -2;
        for (int c = 0; c < prog.blocks.size(); c++) {
            if (now.check[c] && far(b, c) >= 0) {
                least = least < 0 ? far(b, c) : Math.min(least, far(b, c));
            }
        }
        return least;
    }

    private boolean firstWins(int b, int left, boolean firstsTurn) {
        if (now.check[b]) {
            return true;
        }
        List<Integer> from = prog.edgesFrom(b);
        if (left == 0 || from.isEmpty()) {
            return false;
        }
        for (int e : from) {
            if (firstWins(prog.edges.get(e)[1], left - 1, !firstsTurn) == firstsTurn) {
                return firstsTurn;
            }
        }
        return !firstsTurn;
    }

    int leaders(int b, int n, int what) {
        if (!isBlock(b) || n < 0 || n > 9 || what < 0 || what > 1) {
            return -1;
        }
        if (what == 0) {
            return firstWins(b, n, true) ? 0 : 1;
        }
        if (!now.check[b] && n > 0) {
            for (int e : prog.edgesFrom(b)) {
                if (firstWins(prog.edges.get(e)[1], n - 1, false)) {
                    return e;
                }
            }
        }
        return -2;
    }

    long holds(int n, int what) {
        if (n < 0 || n > 6 || what < 0 || what > 1) {
            return -1;
        }
        java.math.BigInteger above = java.math.BigInteger.valueOf(100 - prog.setting("jump", 0)).pow(n);
        java.math.BigInteger below = java.math.BigInteger.valueOf(100).pow(n);
        java.math.BigInteger common = above.gcd(below);
        return (what == 0 ? above : below).divide(common).longValue();
    }

    int ways(int b, int n) {
        return isBlock(b) && n >= 0 && n <= 9 ? waysFrom(0, b, n) : -1;
    }

    private int waysFrom(int at, int b, int n) {
        if (n == 0) {
            return at == b ? 1 : 0;
        }
        int count = 0;
        for (int e : prog.edgesFrom(at)) {
            count += waysFrom(prog.edges.get(e)[1], b, n - 1);
        }
        return count;
    }

    int alike() {
        int pairs = 0;
        for (int a = 0; a < now.sign.length; a++) {
            for (int b = a + 1; b < now.sign.length; b++) {
                pairs += now.sign[a] == now.sign[b] ? 1 : 0;
            }
        }
        return pairs;
    }

    int note(int e, int b, boolean right) {
        if (!isSlip(e, b) || notes.size() == 24) {
            return -1;
        }
        Note n = new Note();
        n.edge = e;
        n.block = b;
        n.right = right;
        notes.add(n);
        return notes.size() - 1;
    }

    int strike(int note) {
        if (note < 0 || note >= notes.size() || notes.size() == 24) {
            return -1;
        }
        Note n = new Note();
        n.strikes = note;
        notes.add(n);
        return notes.size() - 1;
    }

    boolean known(int n) {
        if (n < -1 || n > notes.size()) {
            return false;
        }
        knownBy = n;
        return true;
    }

    private int byHowMany() {
        return knownBy < 0 ? notes.size() : knownBy;
    }

    /** STRUCK: one of those KNOWN by, itself not STRUCK, strikes it. */
    private boolean struck(int note) {
        for (int i = note + 1; i < byHowMany(); i++) {
            if (notes.get(i).strikes == note && !struck(i)) {
                return true;
            }
        }
        return false;
    }

    private boolean fits(int[] sign) {
        for (int i = 0; i < byHowMany(); i++) {
            Note n = notes.get(i);
            if (n.strikes < 0 && !struck(i)
                && (slipMark(n.edge, n.block, sign, prog.allBases()) == sign[n.block]) != n.right) {
                return false;
            }
        }
        return true;
    }

    private int[] signInstead(int b, int sign) {
        int[] signs = now.sign.clone();
        signs[b] = sign;
        return signs;
    }

    int signs(int b) {
        if (!isBlock(b)) {
            return -1;
        }
        int bits = 0;
        for (int s = 0; s < 16; s++) {
            bits |= fits(signInstead(b, s)) ? 1 << s : 0;
        }
        return bits;
    }

    int ask(int b, int what) {
        if (!isBlock(b) || what < 0 || what > 2) {
            return -1;
        }
        int signs = signs(b);
        int[] best = null;
        for (int[] slip : allSlips()) {
            Map<Integer, Integer> answers = new HashMap<>();
            int worst = 0;
            for (int s = 0; s < 16; s++) {
                if ((signs >> s & 1) == 1) {
                    int mark = slipMark(slip[0], slip[1], signInstead(b, s), prog.allBases());
                    worst = Math.max(worst, answers.merge(mark, 1, Integer::sum));
                }
            }
            if (best == null || worst < best[2]) {
                best = new int[] {slip[0], slip[1], worst};
            }
        }
        return best == null ? -2 : best[what];
    }

    int chance(int seed, int n) {
        if (seed < 0 || n < 1 || n > 99) {
            return -1;
        }
        Manner m = new Manner();
        m.numbers = true;
        long number = seed;
        int count = 0;
        for (int time = 0; time < 10; time++) {
            State s = now.copy();
            s.number = number;
            for (int i = 0; i < n; i++) {
                step(s, m);
            }
            number = s.number;
            count += s.alarms > now.alarms ? 1 : 0;
        }
        return count;
    }

    int tried(int what, int i, int n) {
        if (what < 0 || what > 4 || n < 0 || n > 200 || (what == 2 ? !isBlock(i) : i != 0)) {
            return -1;
        }
        State s = now.copy();
        Manner m = new Manner();
        m.jumps = what == 0 ? Boolean.FALSE : what == 3 ? Boolean.TRUE : null;
        m.first = what == 4;
        m.idle = what == 2 ? i : -1;
        if (what == 1) {
            Arrays.fill(s.check, false);
        }
        for (int k = 0; k < n; k++) {
            step(s, m);
        }
        return s.total - now.total;
    }

    int undo() {
        if (undos.isEmpty()) {
            return -1;
        }
        now = undos.remove(undos.size() - 1);
        return undos.size();
    }

    int keep() {
        image = now.copy();
        return now.step;
    }

    int back() {
        if (image == null) {
            return -1;
        }
        now = image.copy();
        undos.clear();
        return now.step;
    }

    int count(int what) {
        int checks = 0;
        for (boolean c : now.check) {
            checks += c ? 1 : 0;
        }
        int[] all = {prog.blocks.size(), prog.edges.size(), checks, prog.knots, now.step,
            prog.blocks.isEmpty() ? -2 : now.at, now.mark, now.adjust, now.total, now.alarms, now.jumps, now.ends,
            notes.size(), byHowMany(), undos.size()};
        return what >= 0 && what < all.length ? all[what] : -1;
    }
}
