import java.util.NoSuchElementException;
import java.util.Random;

/** Long runs of calls, made by a fixed sequence, on MarkGuards and on Model: each answer must be the same. */
public final class ModelTest {
    private static final String[] WORDS = {"block", "edge", "check", "base", "limit", "jump", "seed", "law", "out",
        "turn", "land", "or", "and", "not", "work", "visits", "mark", "place", "ways", "total", "step", ";", "(", ")",
        "+", "-", "*", "/", "<", "<=", "=", "<>", ">=", ">", "0", "1", "99", "256", "9999", "10000", "a", "b",
        "toolong", "sixsix", "#", " ", "\n", "A", "\u00e9", "\0"};
    private static final String[] NAMES = {"a", "bc", "d", "efg", "h", "zzzzzz", "bcd", "lawa"};
    private static final int RUNS = 500;
    /** Behind these a text may still be read and all be counted: 512 calls are an object's most. */
    private static final int CALLS = 420;
    private static final int CALLS_OF_TEXTS = 300;

    private final Random random;
    private final int run;
    private MarkGuards x = new MarkGuards();
    private Model y = new Model();
    private int calls;
    private int blocks;
    private int edges;

    private ModelTest(int run) {
        this.run = run;
        this.random = new Random(7000L + run);
    }

    public static void main(String[] args) {
        for (int run = 0; run < RUNS; run++) {
            new ModelTest(run).play();
        }
        Due.finish();
    }

    private int below(int n) {
        return random.nextInt(n);
    }

    private boolean often(int percent) {
        return below(100) < percent;
    }

    private String blank() {
        return often(70) ? " " : often(50) ? "\n" : "  ";
    }

    private String formula(int depth) {
        String[] names = {"work", "visits", "mark", "place", "ways", "total", "step"};
        String[] signs = {"+", "-", "*", "/", "<", "<=", "=", "<>", ">=", ">", " and ", " or "};
        if (depth == 0 || often(25)) {
            return often(45) ? String.valueOf(often(80) ? below(12) : below(10000)) : names[below(names.length)];
        }
        String inside = formula(depth - 1) + signs[below(signs.length)] + formula(depth - 1);
        return often(12) ? " (not " + formula(depth - 1) + ")" : often(75) ? "(" + inside + ")" : inside;
    }

    private String program() {
        StringBuilder text = new StringBuilder();
        boolean lawsFirst = often(30);
        if (lawsFirst) {
            laws(text);
        }
        blocks = often(5) ? 0 : 1 + below(8);
        int few = often(50) ? 4 : 256;
        for (int b = 0; b < blocks; b++) {
            text.append("block").append(blank()).append(NAMES[b]);
            text.append(' ').append(below(few)).append(blank()).append(below(100)).append(often(80) ? ";" : " ;");
        }
        boolean[][] there = new boolean[8][8];
        int[] out = new int[8];
        edges = 0;
        int tries = blocks == 0 ? 0 : below(24);
        for (int i = 0; i < tries && edges < 16; i++) {
            int from = below(blocks);
            int to = below(blocks);
            if (out[from] < 3 && !there[from][to]) {
                there[from][to] = true;
                out[from]++;
                edges++;
                text.append("edge ").append(NAMES[from]).append(' ').append(NAMES[to]).append(';');
            }
        }
        for (int b = 0; b < blocks; b++) {
            if (often(35)) {
                text.append("check ").append(NAMES[b]).append(';');
            }
            int base = below(blocks);
            if (often(50) && there[base][b]) {
                text.append("base ").append(NAMES[b]).append(' ').append(NAMES[base]).append(';');
            }
        }
        settings(text);
        if (!lawsFirst) {
            laws(text);
        }
        return text.toString();
    }

    private void settings(StringBuilder text) {
        if (often(60)) {
            text.append("limit ").append(1 + below(often(70) ? 6 : 40)).append(';');
        }
        if (often(75)) {
            text.append("jump ").append(often(20) ? 100 * below(2) : below(101)).append(';');
        }
        if (often(60)) {
            text.append("seed ").append(below(100000)).append(';');
        }
    }

    private void laws(StringBuilder text) {
        for (String rule : new String[] {"out", "turn", "land"}) {
            if (often(50)) {
                text.append("law ").append(rule).append(blank()).append(formula(3)).append(';');
            }
        }
    }

    private String spoilt(String text) {
        StringBuilder t = new StringBuilder(text);
        for (int i = 0; i <= below(3); i++) {
            int at = below(t.length() + 1);
            switch (below(4)) {
                case 0:
                    t.setLength(at);
                    break;
                case 1:
                    t.insert(at, WORDS[below(WORDS.length)]);
                    break;
                case 2:
                    t.insert(at, " " + WORDS[below(WORDS.length)] + " ");
                    break;
                default:
                    if (at < t.length()) {
                        t.deleteCharAt(at);
                    }
            }
        }
        return t.toString();
    }

    private void read(String text) {
        for (int at = 0; at < text.length(); at += 20) {
            int[] w = new int[5];
            for (int i = 0; i < 20; i++) {
                w[i / 4] = w[i / 4] << 8 | (at + i < text.length() ? text.charAt(at + i) & 255 : 32);
            }
            same("feed", x.feed(w[0], w[1], w[2], w[3], w[4]), y.feed(w[0], w[1], w[2], w[3], w[4]));
        }
        int n = often(4) ? below(720) - 10 : text.length();
        same("text of " + text, x.text(n), y.text(n));
        same("fault(0) of " + text, x.fault(0), y.fault(0));
        same("fault(1) of " + text, x.fault(1), y.fault(1));
        for (int what = -1; what <= 15; what++) {
            same("count(" + what + ") behind " + text, x.count(what), y.count(what));
        }
    }

    private void same(String call, long got, long want) {
        calls++;
        Due.same("run " + run + " call " + calls + ": " + call, got, want);
    }

    private void play() {
        if (often(40)) {
            for (int i = 0; i < 8 && calls < CALLS_OF_TEXTS; i++) {
                read(often(40) ? program() : spoilt(program()));
            }
        }
        read(program());
        if (often(15) && calls < CALLS_OF_TEXTS) {
            hurry();
        }
        while (calls < CALLS) {
            if (often(2)) {
                read(often(50) ? program() : spoilt(program()));
            }
            callRun();
            callLook();
        }
        for (int what = 0; what < 15; what++) {
            same("count(" + what + ") at the end", x.count(what), y.count(what));
        }
    }

    /** Towards the last STEP and over its edge, so that the rest of the run is near it. */
    private void hurry() {
        for (int i = 0; i < 80; i++) {
            int n = often(85) ? 120 + below(81) : below(20);
            same("go " + n, x.go(n), y.go(n));
        }
        for (int what = 4; what <= 11; what++) {
            same("count(" + what + ") near the last STEP", x.count(what), y.count(what));
        }
    }

    private int someBlock() {
        return often(94) && blocks > 0 ? below(blocks) : below(14) - 3;
    }

    private int someEdge() {
        return often(94) && edges > 0 ? below(edges) : below(20) - 2;
    }

    private int some(int least, int most) {
        return often(90) ? least + below(most - least + 1) : often(50) ? least - 1 - below(2) : most + 1 + below(2);
    }

    private void callRun() {
        int b = someBlock();
        int n = often(80) ? below(12) : some(0, 200);
        int s = often(50) ? below(4) : some(0, 255);
        switch (below(14)) {
            case 0:
            case 1:
            case 2:
                same("go " + n, x.go(n), y.go(n));
                break;
            case 3:
            case 4:
                same("jump " + b, x.jump(b) ? 1 : 0, y.jump(b) ? 1 : 0);
                break;
            case 5:
                same("check " + b, x.check(b), y.check(b));
                break;
            case 6:
                same("sign " + b + " " + s, x.sign(b, s), y.sign(b, s));
                break;
            case 7:
            case 8:
                same("undo", x.undo(), y.undo());
                break;
            case 9:
                same("keep", x.keep(), y.keep());
                break;
            case 10:
                same("back", x.back(), y.back());
                break;
            case 11:
                int e = someEdge();
                boolean right = often(50) ? y.slip(e, b) >= 0 && b >= 0 && b < blocks && y.slip(e, b) == signOf(b) : often(50);
                same("note " + e + " " + b + " " + right, x.note(e, b, right), y.note(e, b, right));
                break;
            case 12:
                int note = some(0, Math.max(0, y.count(12) - 1));
                if (often(40)) {
                    same("strike " + note, x.strike(note), y.strike(note));
                }
                break;
            default:
                int by = some(-1, y.count(12));
                same("known " + by, x.known(by) ? 1 : 0, y.known(by) ? 1 : 0);
        }
    }

    private int signOf(int b) {
        return b >= 0 && b < y.count(0) ? y.block(b, 0) : -5;
    }

    private void callBlock(int b, int what) {
        long got;
        long want;
        try {
            got = x.block(b, what);
        } catch (IndexOutOfBoundsException thrown) {
            got = -100;
        } catch (NoSuchElementException thrown) {
            got = -200;
        }
        try {
            want = y.block(b, what);
        } catch (IndexOutOfBoundsException thrown) {
            want = -100;
        } catch (NoSuchElementException thrown) {
            want = -200;
        }
        same("block " + b + " " + what, got, want);
    }

    private void callLook() {
        int b = someBlock();
        int e = someEdge();
        switch (below(4)) {
            case 0:
                lookAtProgram(b, e);
                break;
            case 1:
                lookAhead(b);
                break;
            case 2:
                lookAtSlips(e, b);
                break;
            default:
                lookAtGraph(b);
        }
    }

    private static int packed(String name) {
        int letters = 0;
        for (int i = 0; i < 6; i++) {
            letters = letters << 5 | (i < name.length() ? name.charAt(i) & 31 : 0);
        }
        return letters;
    }

    private void lookAtProgram(int b, int e) {
        int what = some(0, 6);
        callBlock(b, what);
        same("edge " + e + " " + what, x.edge(e, what % 4), y.edge(e, what % 4));
        same("base " + b, x.base(b), y.base(b));
        same("diff " + b, x.diff(b), y.diff(b));
        if (often(30)) {
            same("tried 2 " + b, x.tried(2, b, 9), y.tried(2, b, 9));
        }
        same("law " + what % 4 + " " + b, x.law(what % 4, b), y.law(what % 4, b));
        int letters = often(80) ? packed(NAMES[below(8)]) : below(1 << 30);
        same("named " + letters, x.named(letters), y.named(letters));
        int c = some(0, 14);
        same("count " + c, x.count(c), y.count(c));
        same("signs " + b, x.signs(b), y.signs(b));
        int w = some(0, 2);
        same("ask " + b + " " + w, x.ask(b, w), y.ask(b, w));
    }

    private void lookAhead(int b) {
        int n = often(80) ? below(15) : some(0, 200);
        int what = some(0, 4);
        same("ahead " + n + " " + what, x.ahead(n, what), y.ahead(n, what));
        same("comes " + b, x.comes(b), y.comes(b));
        int i = what == 2 ? b : often(95) ? 0 : 1;
        same("tried " + what + " " + i + " " + n, x.tried(what, i, n), y.tried(what, i, n));
        int seed = often(90) ? below(Integer.MAX_VALUE) : often(50) ? -below(5) : Integer.MAX_VALUE;
        int steps = often(80) ? 1 + below(9) : some(1, 99);
        same("chance " + seed + " " + steps, x.chance(seed, steps), y.chance(seed, steps));
    }

    private void lookAtSlips(int e, int b) {
        same("slip " + e + " " + b, x.slip(e, b), y.slip(e, b));
        same("caught " + e + " " + b, x.caught(e, b), y.caught(e, b));
        same("soonest " + e + " " + b, x.soonest(e, b), y.soonest(e, b));
        same("beyond " + e + " " + b, x.beyond(e, b), y.beyond(e, b));
        int what = some(0, 3);
        same("cover " + what, x.cover(what), y.cover(what));
        if (often(12)) {
            same("checks " + what % 3, x.checks(what % 3), y.checks(what % 3));
            same("bases", x.bases(), y.bases());
        }
    }

    private void lookAtGraph(int b) {
        int c = someBlock();
        int n = often(80) ? below(5) : some(0, 9);
        int what = some(0, 1);
        same("only " + b, x.only(b), y.only(b));
        same("far " + b + " " + c, x.far(b, c), y.far(b, c));
        same("ring " + b, x.ring(b), y.ring(b));
        same("nearest " + b, x.nearest(b), y.nearest(b));
        same("leaders " + b + " " + n + " " + what, x.leaders(b, n, what), y.leaders(b, n, what));
        same("holds " + n + " " + what, x.holds(n, what), y.holds(n, what));
        same("ways " + b + " " + n, x.ways(b, n), y.ways(b, n));
        same("alike", x.alike(), y.alike());
    }
}
