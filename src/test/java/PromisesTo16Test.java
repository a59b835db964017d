import java.util.NoSuchElementException;

/** Promises 1 to 16, sentence by sentence: the last number taken, the first one refused, and that nothing comes of it. */
public final class PromisesTo16Test {
    private static final int MOST = Integer.MAX_VALUE;
    private static final int LEAST = Integer.MIN_VALUE;
    /** Of three BLOCKS; 32 to 34 are 0 to 2, if only five bits of them count. */
    private static final int[] NO_BLOCKS = {-1, 3, 4, 7, 8, 31, 32, 33, 34, 64, 256, MOST, LEAST, LEAST + 1};
    /** Of four EDGES. */
    private static final int[] NO_EDGES = {-1, 4, 5, 15, 16, 32, 33, 256, MOST, LEAST, LEAST + 1};
    private static final String THREE = "block a 1 5;block b 2 7;block c 4 9;edge a b;edge a c;edge b c;edge c a;check c;";
    private static final String EIGHT = "block a 1 1;block b 2 2;block c 3 3;block d 4 4;block e 5 5;block f 6 6;block g 7 7;"
        + "block h 8 8;";

    public static void main(String[] args) {
        newObject();
        feeding();
        fullTape();
        tapeToText();
        textAnew();
        linesOfText();
        faultyText();
        refusedText();
        faults();
        named();
        blocks();
        blocksThrow();
        edges();
        bases();
        differences();
        laws();
        jumping();
        checking();
        signing();
        going();
        goingRefused();
        ahead();
        comes();
        lastCall();
        Due.finish();
    }

    private static void counts(String when, MarkGuards x, int... due) {
        for (int what = 0; what < due.length; what++) {
            Due.same(when + ": count(" + what + ")", x.count(what), due[what]);
        }
    }

    private static void newObject() {
        Due.says("Promise 1", "A TEXT without LINES; an empty TAPE.");
        MarkGuards x = new MarkGuards();
        counts("a new object", x, 0, 0, 0, 0, 0, -2, 0, 0, 0, 0, 0, 0, 0, 0, 0);
        Due.same("no law", x.law(0, 0), Long.MIN_VALUE);
        Due.same("jump is 0", x.holds(6, 0), 1);
        Due.same("no IMAGE", x.back(), -1);
        Due.same("nothing to undo", x.undo(), -1);
        Due.same("no fault", x.fault(0), 0);
        Due.same("no place", x.fault(1), -1);
        Due.same("text(1) of an empty TAPE", x.text(1), -2);
        Due.same("text(0) of an empty TAPE", x.text(0), 0);
        Due.same("the first bytes", x.feed(0, 0, 0, 0, 0), 20);
    }

    private static void feeding() {
        Due.says("Promise 2", "Twenty bytes come behind the TAPE, four of each number, the highest first: how many it has;");
        // "limit 4;jump 20;seed" and " 9;" in two calls
        MarkGuards x = new MarkGuards();
        Due.same("twenty", x.feed(0x6c696d69, 0x7420343b, 0x6a756d70, 0x2032303b, 0x73656564), 20);
        Due.same("forty", x.feed(0x20393b20, 0x20202020, 0x20202020, 0x20202020, 0x20202020), 40);
        Due.same("in this order", x.text(40), 3);
        Due.same("jump 20", x.holds(1, 0) * 10 + x.holds(1, 1), 45);
        for (int at = 0; at < 20; at++) {
            int[] w = {0x20202020, 0x20202020, 0x20202020, 0x20202020, 0x20202020};
            w[at / 4] = 0x20202020 & ~(255 << 24 - at % 4 * 8) | 200 << 24 - at % 4 * 8;
            x.feed(w[0], w[1], w[2], w[3], w[4]);
            x.text(20);
            Due.same("byte 200 at " + at, x.fault(0) * 100 + x.fault(1), 100 + at);
        }
        x.feed(-1, -1, -1, -1, -1);
        x.text(20);
        Due.same("bytes 255", x.fault(0) * 100 + x.fault(1), 100);
    }

    private static void feedBlanks(MarkGuards x, int bytes) {
        for (int i = 0; i < bytes; i += 20) {
            x.feed(0x20202020, 0x20202020, 0x20202020, 0x20202020, 0x20202020);
        }
    }

    private static void fullTape() {
        Due.says("Promise 2", "NONE, and none come, if it would have more than 700.");
        MarkGuards x = new MarkGuards();
        feedBlanks(x, 660);
        Due.same("680", x.feed(0x20202020, 0x20202020, 0x20202020, 0x20202020, 0x20202020), 680);
        Due.same("700", x.feed(0x20202020, 0x20202020, 0x2020206c, 0x696d6974, 0x2034303b), 700);
        Due.same("720", x.feed(0x6a756d70, 0x2031303b, 1, 2, 3), -1);
        Due.same("720 again", x.feed(0, 0, 0, 0, 0), -1);
        Due.same("none came", x.text(701), -2);
        Due.same("what was there stays", x.text(700), 1);
        Due.same("as before", x.fault(0), 0);
        Due.same("empty again", x.feed(0, 0, 0, 0, 0), 20);
        Twin twin = new Twin();
        twin.both(Twin::makeRich);
        twin.both(y -> Due.feed(y, "jump 75;"));
        twin.both(y -> feedBlanks(y, 680));
        Due.same("it is full", twin.tried.feed(0x23232323, -1, 0, 5, 5), -1);
        twin.alike("feed of a full TAPE");
        Due.same("jump 75 was read", twin.tried.holds(1, 1), 4);
    }

    private static void tapeToText() {
        Due.says("Promise 3", "The TAPE's first n bytes (it is empty then) are the TEXT");
        MarkGuards x = new MarkGuards();
        Due.feed(x, THREE + "limit 4;");
        Due.same("the first LINE alone", x.text(12), 1);
        Due.same("one BLOCK", x.count(0), 1);
        Due.same("the TAPE is empty then", x.text(1), -2);
        Due.feed(x, "limit 4;");
        Due.same("one byte too few", x.text(7), -1);
        Due.same("the TAPE is empty then, too", x.text(1), -2);
        Due.feed(x, "limit 4;            ");
        Due.same("all it has", x.text(20), 1);
        Due.feed(x, "limit 4;");
        Due.same("none of it", x.text(0), 0);
        Due.same("the TAPE is empty then, too", x.text(1), -2);
        Due.same("none of an empty one", x.text(0), 0);
        Due.same("it begins anew", x.feed(0, 0, 0, 0, 0), 20);
        String full = EIGHT + "limit 9;";
        MarkGuards y = new MarkGuards();
        Due.feed(y, full + " ".repeat(700 - full.length()));
        Due.same("a full TAPE", y.text(700), 9);
    }

    private static void textAnew() {
        Due.says("Promise 3", "(STEP 0, in the ENTRY, nothing VISITED, no TOTAL, SIGNS, CHECKS as told, no NOTES, all KNOWN, "
            + "no IMAGE, nothing to undo then)");
        MarkGuards x = new MarkGuards();
        Twin.makeRich(x);
        Due.same("THREE", Due.read(x, THREE), 8);
        counts("anew", x, 3, 4, 1, 0, 0, 0, 1, 0, 0, 0, 0, 0, 0, 0, 0);
        for (int b = 0; b < 3; b++) {
            Due.same("nothing VISITED", x.block(b, 3), 0);
            Due.same("SIGNS as told", x.block(b, 0), 1 << b);
            Due.same("CHECKS as told", x.block(b, 2), b == 2 ? 1 : 0);
        }
        Due.same("no IMAGE", x.back(), -1);
        Due.same("nothing to undo", x.undo(), -1);
        Due.same("no law", x.law(0, 0), Long.MIN_VALUE);
        x.note(0, 0, true);
        Due.same("all KNOWN, also those to come", x.count(13), 1);
        Twin.makeRich(x);
        Due.same("an empty one", x.text(0), 0);
        counts("empty", x, 0, 0, 0, 0, 0, -2, 0, 0, 0, 0, 0, 0, 0, 0, 0);
        Due.same("no IMAGE", x.back(), -1);
        Due.same("nothing to undo", x.undo(), -1);
        MarkGuards ended = Due.of("block a 9 1;limit 1;jump 1;seed 5;");
        ended.go(3);
        Due.same("ENDS", ended.count(11), 3);
        Due.read(ended, THREE);
        Due.same("no ENDS anew", ended.count(11), 0);
        Due.same("limit 10 again", ended.cover(2), 6);
        Due.same("jump 0 again", ended.holds(1, 0), 1);
        MarkGuards seeded = Due.of("seed 5;");
        Due.read(seeded, "block a 1 1;block b 1 1;edge a a;edge b b;jump 100;");
        Numbers numbers = new Numbers(0);
        for (int i = 0; i < 20; i++) {
            seeded.go(1);
            Due.same("the seed is 0 again", seeded.count(5), numbers.next() % 2);
        }
        Twin.makeRich(x);
        x.go(1);
        for (int i = 0; i < 9 && x.count(7) == 0; i++) {
            x.go(1);
        }
        Due.so("ADJUST isn't 0", x.count(7) != 0);
        x.text(0);
        Due.same("ADJUST 0 without BLOCKS", x.count(7), 0);
        MarkGuards a = Due.of(Twin.TEXT);
        MarkGuards b = new MarkGuards();
        Twin.makeRich(b);
        Due.read(b, Twin.TEXT);
        a.go(100);
        b.go(100);
        for (int what = 4; what < 12; what++) {
            Due.same("numbers begin with the seed: count(" + what + ")", b.count(what), a.count(what));
        }
    }

    private static void linesOfText() {
        Due.says("Promise 3", ": how many LINES;");
        StringBuilder text = new StringBuilder();
        int lines = 0;
        Due.same("none", Due.of("").text(0), 0);
        for (int b = 0; b < 8; b++) {
            text.append("block ").append((char) ('a' + b)).append(" 1 1;");
            lines++;
            Due.same("LINES", Due.read(new MarkGuards(), text.toString()), lines);
        }
        for (int e = 0; e < 16; e++) {
            text.append("edge ").append((char) ('a' + e / 2)).append(' ').append((char) ('a' + (e / 2 + e % 2) % 8)).append(';');
        }
        for (int b = 0; b < 8; b++) {
            text.append("check ").append((char) ('a' + b)).append(';');
            text.append("base ").append((char) ('a' + b)).append(' ').append((char) ('a' + b)).append(';');
        }
        text.append("limit 1;jump 1;seed 1;law out 1;law turn 1;law land 1;");
        Due.same("as many as there can be", Due.read(new MarkGuards(), text.toString()), 8 + 16 + 16 + 6);
        Due.same("no LINE fits in behind these", Due.read(new MarkGuards(), text + "seed 1;"), -1);
    }

    private static void faultyText() {
        Due.says("Promise 3", "NONE with a FAULT, all stays;");
        String[] faulty = {"limit 41;", "block z 1 1;block z 1 1;", "block z 9 9;edge z z;check z;jump 3;law out 1;law",
            "law out 1;law turn 2;law land 3;seed 5;edge z z;", "#"};
        for (String text : faulty) {
            Twin twin = new Twin();
            twin.both(Twin::makeRich);
            Due.same("text of " + text, Due.read(twin.tried, text), -1);
            twin.alike("text of " + text, false);
        }
        String[] formulas = {"law out (1+(2*", "law out not not (((((((1", "law out 1 or 2 and not", "law out ((((((((1",
            "law out ((((((((1)))))))", "law out 1<2<"};
        for (String text : formulas) {
            MarkGuards y = Due.of("block a 3 1;law out mark;");
            Due.same("text of " + text, Due.read(y, text), -1);
            Due.same("the law stays", y.law(0, 0), 3);
            Due.same("nothing is left of it", Due.read(y, "block a 1 1;law out ((((((((4))))))))+1;law turn 7;"), 3);
            Due.same("the law", y.law(0, 0) * 10 + y.law(1, 0), 57);
        }
        MarkGuards x = new MarkGuards();
        Due.same("of a new object", Due.read(x, "block"), -1);
        counts("a new object still", x, 0, 0, 0, 0, 0, -2, 0, 0, 0, 0, 0, 0, 0, 0, 0);
    }

    private static void refusedText() {
        Due.says("Promise 3", "-2, and the TAPE stays: there are not so many, n is below 0.");
        Twin.refuses("text", -2, MarkGuards::text, -1, -2, 21, 22, 700, 701, MOST, LEAST);
        MarkGuards x = new MarkGuards();
        feedBlanks(x, 700);
        Due.same("one more than a full TAPE has", x.text(701), -2);
        Due.same("n below 0 of a full TAPE", x.text(-1), -2);
        Due.same("it stays", x.feed(0, 0, 0, 0, 0), -1);
        Due.same("all of it", x.text(700), 0);
    }

    private static void faults() {
        Due.says("Promise 4", "Of the latest text() that was not -2, what 0: its FAULT (0), 1: its place (NONE without).");
        MarkGuards x = new MarkGuards();
        Due.same("no text yet", x.fault(0), 0);
        Due.same("no text yet, its place", x.fault(1), -1);
        String[][] rows = {{"1", "law 1;", "4"}, {"2", "limit 41;", "6"}, {"3", "jump 1;jump 1;", "7"}, {"4", "check a;", "6"},
            {"5", "block a 1 1;base a a;", "19"}, {"1", "#", "0"}};
        for (String[] row : rows) {
            Due.read(x, row[1]);
            Due.same("FAULT of " + row[1], x.fault(0), Integer.parseInt(row[0]));
            Due.same("place of " + row[1], x.fault(1), Integer.parseInt(row[2]));
            Due.same("text(-1)", x.text(-1), -2);
            Due.same("text(1)", x.text(1), -2);
            Due.same("FAULT behind -2", x.fault(0), Integer.parseInt(row[0]));
            Due.same("place behind -2", x.fault(1), Integer.parseInt(row[2]));
        }
        Due.feed(x, " ".repeat(700));
        x.text(700);
        Due.same("a right one", x.fault(0), 0);
        Due.same("a right one, its place", x.fault(1), -1);
        Due.feed(x, " ".repeat(695) + "limit");
        x.text(700);
        Due.same("the last place there is", x.fault(1), 700);
        Due.says("Promise 4", "NONE for another what.");
        Twin.refuses("fault", -1, MarkGuards::fault, -1, 2, 3, 32, MOST, LEAST);
    }

    private static int letters(String name) {
        int letters = 0;
        for (int i = 0; i < 6; i++) {
            letters = letters * 32 + (i < name.length() ? name.charAt(i) - 'a' + 1 : 0);
        }
        return letters;
    }

    private static void named() {
        Due.says("Promise 5", "The number of a BLOCK by its letters, 5 bits each (a is 1; the first one highest of six, 0 behind "
            + "the last one);");
        String[] names = {"a", "z", "az", "zzz", "abcd", "zyxwv", "zzzzzz", "aaaaaa"};
        StringBuilder text = new StringBuilder();
        for (String name : names) {
            text.append("block ").append(name).append(" 1 1;");
        }
        MarkGuards x = Due.of(text.toString());
        for (int b = 0; b < 8; b++) {
            Due.same(names[b], x.named(letters(names[b])), b);
        }
        Due.same("a is 1", x.named(1 << 25), 0);
        Due.same("z is 26", x.named(26 << 25), 1);
        Due.says("Promise 5", "NONE: there is none such.");
        for (String name : new String[] {"b", "aa", "aaa", "zz", "zzzzz", "aaaaa", "abc", "abcde", "zyxwvu"}) {
            Due.same(name, x.named(letters(name)), -1);
        }
        for (int wrong : new int[] {0, 1, 26, 1 << 20, 27 << 25, 31 << 25, 1 << 30, 1 << 30 | 1 << 25, 1 << 31 | 1 << 25,
            1 << 25 | 1, MOST, LEAST, -1}) {
            Due.same("letters " + wrong, x.named(wrong), -1);
        }
        Due.same("without BLOCKS", new MarkGuards().named(0), -1);
        MarkGuards y = Due.of("block a 1 1;block b 1 1;");
        Due.read(y, "block a 1 1;");
        Due.same("of a text ahead", y.named(2 << 25), -1);
        Twin.refuses("named", -1, MarkGuards::named, 0, 1, -1, 4 << 25, MOST, LEAST);
    }

    private static void blocks() {
        Due.says("Promise 6", "Of a BLOCK now, what 0 SIGN, 1 WORK, 2 whether it has a CHECK (1, 0), 3 VISITS, 4 how many EDGES from "
            + "it, 5 to it.");
        MarkGuards x = Due.of("block a 255 0;block b 0 99;edge a a;edge b a;edge a b;check b;");
        int[][] due = {{255, 0, 0, 0, 2, 2}, {0, 99, 1, 0, 1, 1}};
        for (int b = 0; b < 2; b++) {
            for (int what = 0; what < 6; what++) {
                Due.same("block(" + b + ", " + what + ")", x.block(b, what), due[b][what]);
            }
        }
        x.sign(0, 3);
        x.check(0);
        x.check(1);
        x.jump(0);
        Due.same("SIGN now", x.block(0, 0), 3);
        Due.same("CHECK now", x.block(0, 2) * 10 + x.block(1, 2), 10);
        Due.same("VISITS now", x.block(0, 3), 1);
        MarkGuards none = Due.of(EIGHT);
        Due.same("the last of eight", none.block(7, 0), 8);
        Due.same("no EDGES", none.block(7, 4) + none.block(7, 5), 0);
    }

    private static int thrown(MarkGuards x, int block, int what) {
        try {
            x.block(block, what);
            return 0;
        } catch (IndexOutOfBoundsException e) {
            return e.getClass() == IndexOutOfBoundsException.class ? 1 : 3;
        } catch (NoSuchElementException e) {
            return e.getClass() == NoSuchElementException.class ? 2 : 3;
        }
    }

    private static void blocksThrow() {
        Due.says("Promise 6", "IndexOutOfBoundsException: no such BLOCK.");
        for (int what = 0; what < 6; what++) {
            int w = what;
            Twin.refuses("block(.., " + what + ")", 1, (x, n) -> thrown(x, n, w), NO_BLOCKS);
        }
        Due.same("the ninth", thrown(Due.of(EIGHT), 8, 0), 1);
        Due.same("without BLOCKS", thrown(new MarkGuards(), 0, 0), 1);
        Due.same("neither", thrown(Due.of(EIGHT), 8, 6), 1);
        Due.says("Promise 6", "NoSuchElementException: no such what.");
        for (int block = 0; block < 3; block++) {
            int b = block;
            Twin.refuses("block(" + block + ", ..)", 2, (x, n) -> thrown(x, b, n), -1, 6, 7, 32, 37, MOST, LEAST);
        }
    }

    private static void edges() {
        Due.says("Promise 7", "Of an EDGE, what 0 the BLOCK it leads from, 1 to, 2 its ADJUST now.");
        MarkGuards x = Due.of("block a 1 1;block b 2 2;edge b b;edge a b;");
        int[][] due = {{1, 1, 0}, {0, 1, 3}};
        for (int e = 0; e < 2; e++) {
            for (int what = 0; what < 3; what++) {
                Due.same("edge(" + e + ", " + what + ")", x.edge(e, what), due[e][what]);
            }
        }
        x.sign(0, 255);
        Due.same("ADJUST now", x.edge(1, 2), 253);
        StringBuilder text = new StringBuilder(EIGHT);
        for (int e = 0; e < 16; e++) {
            text.append("edge ").append((char) ('a' + e / 2)).append(' ').append((char) ('g' + e % 2)).append(';');
        }
        Due.same("the last of sixteen", Due.of(text.toString()).edge(15, 0), 7);
        Due.says("Promise 7", "NONE: no such ones.");
        Due.same("the seventeenth", Due.of(text.toString()).edge(16, 0), -1);
        for (int what = 0; what < 3; what++) {
            int w = what;
            Twin.refuses("edge(.., " + what + ")", -1, (y, n) -> y.edge(n, w), NO_EDGES);
        }
        Twin.refuses("edge(3, ..)", -1, (y, n) -> y.edge(3, n), -1, 3, 4, 32, MOST, LEAST);
        Due.same("neither", x.edge(2, 3), -1);
        Due.same("without EDGES", new MarkGuards().edge(0, 0), -1);
    }

    private static void bases() {
        Due.says("Promise 8", "BASE; -2: there is none; NONE: no such BLOCK.");
        MarkGuards x = Due.of(EIGHT + "edge h h;edge a g;");
        Due.same("none", x.base(0), -2);
        Due.same("the first BLOCK", x.base(6), 0);
        Due.same("itself", x.base(7), 7);
        Due.same("the ninth", x.base(8), -1);
        Twin.refuses("base", -1, MarkGuards::base, NO_BLOCKS);
        Due.same("without BLOCKS", new MarkGuards().base(0), -1);
    }

    private static void differences() {
        Due.says("Promise 9", "DIFF now; NONE: no such BLOCK.");
        MarkGuards x = Due.of(EIGHT + "edge h h;edge a g;");
        Due.same("without BASE", x.diff(0), 1);
        Due.same("by its BASE", x.diff(6), 6);
        Due.same("by itself", x.diff(7), 0);
        x.sign(0, 248);
        Due.same("now, by its BASE", x.diff(6), 255);
        Due.same("now, without", x.diff(0), 248);
        Due.same("the ninth", x.diff(8), -1);
        Twin.refuses("diff", -1, MarkGuards::diff, NO_BLOCKS);
        Due.same("without BLOCKS", new MarkGuards().diff(0), -1);
    }

    private static void laws() {
        Due.says("Promise 10", "The law's E now as if one ENTERED a BLOCK (what 0 out; MARK, visits as now) or stood in it (1 turn, "
            + "2 land).");
        String text = THREE + "law out mark*100+visits*10+place;law turn mark*100+visits*10+place+1000;"
            + "law land work*10+ways+total*1000+step*9000;";
        MarkGuards x = Due.of(text);
        Due.same("out at first", x.law(0, 2), 102);
        x.jump(1);
        Due.same("MARK, visits as now", x.law(0, 1), 211);
        Due.same("turn", x.law(1, 1), 1211);
        Due.same("of another BLOCK", x.law(1, 2), 1202);
        Due.same("land", x.law(2, 0), 52 + x.count(8) * 1000L);
        x.go(1);
        Due.same("the STEP now", x.law(2, 2), 91 + x.count(8) * 1000L + 9000);
        Due.same("not cut to 0 .. 999", Due.of("block a 1 1;law out 1000;").law(0, 0), 1000);
        Due.same("below 0", Due.of("block a 1 1;law out 0-1;").law(0, 0), -1);
        Due.says("Promise 10", "Long.MIN_VALUE: an ERROR, no such law, no such BLOCK.");
        for (String rule : new String[] {"out", "turn", "land"}) {
            int told = rule.equals("out") ? 0 : rule.equals("turn") ? 1 : 2;
            MarkGuards y = Due.of("block a 1 1;law " + rule + " 1;");
            MarkGuards e = Due.of("block a 1 1;law " + rule + " 1/0;");
            for (int what = 0; what < 3; what++) {
                Due.same("law(" + what + ", 0), " + rule + " told", y.law(what, 0), what == told ? 1 : Long.MIN_VALUE);
            }
            Due.same("an ERROR of " + rule, e.law(told, 0), Long.MIN_VALUE);
            Due.same("no such BLOCK", y.law(told, 1), Long.MIN_VALUE);
        }
        Twin.refuses("law(0, ..)", Long.MIN_VALUE, (y, n) -> y.law(0, n), NO_BLOCKS);
        Twin.refuses("law(1, ..)", Long.MIN_VALUE, (y, n) -> y.law(1, n), NO_BLOCKS);
        Twin.refuses("law(.., 0)", Long.MIN_VALUE, (y, n) -> y.law(n, 0), -1, 2, 3, 4, 32, MOST, LEAST);
        Due.same("without BLOCKS", Due.of("law out 1;").law(0, 0), Long.MIN_VALUE);
    }

    private static void jumping() {
        Due.says("Promise 11", "One JUMPS to a BLOCK now (ADJUST as now; it is a JUMP more; ENTERS it; no STEP): true: there is no "
            + "ALARM; false: there is;");
        MarkGuards x = Due.of(THREE);
        x.go(2);
        Due.same("ADJUST of b -> c", x.count(7), 3);
        Due.same("no CHECK in b", x.jump(1), true);
        counts("in b", x, 3, 4, 1, 0, 2, 1, 4 ^ 3, 3, 7 + 9 + 7, 0, 1, 0, 0, 0, 1);
        Due.same("VISITED", x.block(1, 3), 2);
        Due.same("c finds it, ADJUST as now", x.jump(2), false);
        counts("an ALARM", x, 3, 4, 1, 0, 2, 0, 1, 0, 7 + 9 + 7 + 9, 1, 2, 0, 0, 0, 2);
        Due.same("a CHECK, MARK right", x.jump(2), true);
        Due.same("in the ENTRY", x.jump(0), true);
        Due.same("the ENTRY is VISITED", x.block(0, 3), 1);
        Due.same("the last of eight", Due.of(EIGHT).jump(7), true);
        Due.says("Promise 11", "false, and nothing comes of it: no such BLOCK.");
        Twin.refuses("jump", 0, (y, n) -> y.jump(n) ? 1 : 0, NO_BLOCKS);
        Due.same("the ninth", Due.of(EIGHT).jump(8), false);
        Due.same("without BLOCKS", new MarkGuards().jump(0), false);
    }

    private static void checking() {
        Due.says("Promise 12", "A CHECK comes into a BLOCK now, or goes, if it has one: 1 it has then, 0 it hasn't;");
        MarkGuards x = Due.of(EIGHT);
        for (int b = 0; b < 8; b++) {
            Due.same("it comes", x.check(b), 1);
            Due.same("CHECKS", x.count(2), b + 1);
        }
        for (int b = 7; b >= 0; b--) {
            Due.same("it goes", x.check(b), 0);
            Due.same("CHECKS", x.count(2), b);
            Due.same("gone", x.block(b, 2), 0);
        }
        Due.says("Promise 12", "NONE: no such BLOCK.");
        Twin.refuses("check", -1, MarkGuards::check, NO_BLOCKS);
        Due.same("the ninth", x.check(8), -1);
        Due.same("without BLOCKS", new MarkGuards().check(0), -1);
    }

    private static void signing() {
        Due.says("Promise 13", "SIGN of a BLOCK is 0 .. 255 now (DIFF, ADJUST of EDGES by it; MARK, ADJUST now stay): what it was;");
        MarkGuards x = Due.of(THREE);
        x.go(2);
        Due.same("255", x.sign(0, 255), 1);
        Due.same("SIGN", x.block(0, 0), 255);
        Due.same("DIFF of its own", x.diff(0), 255 ^ 4);
        Due.same("DIFF of b by it", x.diff(1), 255 ^ 2);
        Due.same("ADJUST of b -> c by it", x.edge(2, 2), 255 ^ 2);
        Due.same("0", x.sign(0, 0), 255);
        Due.same("SIGN", x.block(0, 0), 0);
        Due.same("the same again", x.sign(0, 0), 0);
        Due.same("of where one stands", x.sign(2, 77), 4);
        Due.same("MARK stays", x.count(6), 4);
        Due.same("ADJUST stays", x.count(7), 3);
        Due.same("the last of eight", Due.of(EIGHT).sign(7, 1), 8);
        Due.says("Promise 13", "what it was; NONE: no such ones.");
        Twin.refuses("sign(0, ..)", -1, (y, n) -> y.sign(0, n), -1, 256, 257, 512, MOST, LEAST);
        Twin.refuses("sign(.., 1)", -1, (y, n) -> y.sign(n, 1), NO_BLOCKS);
        Due.same("the ninth", Due.of(EIGHT).sign(8, 1), -1);
        Due.same("neither", x.sign(3, 256), -1);
        Due.same("without BLOCKS", new MarkGuards().sign(0, 0), -1);
    }

    private static void going() {
        Due.says("Promise 14", "So many STEPS (0 .. 200) go by: which one it is;");
        MarkGuards x = Due.of(THREE);
        Due.same("go(0)", x.go(0), 0);
        Due.same("nothing VISITED", x.block(1, 3), 0);
        Due.same("go(1)", x.go(1), 1);
        Due.same("one STEP", x.count(5), 1);
        Due.same("go(199)", x.go(199), 200);
        Due.same("go(200)", x.go(200), 400);
        Due.same("all of them", x.block(0, 3) + x.block(1, 3) + x.block(2, 3), 400);
        Due.same("without BLOCKS", new MarkGuards().go(200), 200);
    }

    /** An object at a STEP. */
    private static MarkGuards at(int step) {
        MarkGuards x = Due.of(THREE);
        int gone = 0;
        while (gone < step) {
            int n = Math.min(200, step - gone);
            x.go(n);
            gone += n;
        }
        Due.same("the STEP", x.count(4), step);
        return x;
    }

    private static void goingRefused() {
        Due.says("Promise 14", "NONE, and none does: no such number, behind 9800.");
        Twin.refuses("go", -1, MarkGuards::go, -1, -2, 201, 202, 256, 9800, MOST, MOST - 11, LEAST);
        int[][] rows = {{9600, 200, 9800}, {9601, 199, 9800}, {9601, 200, -1}, {9799, 1, 9800}, {9799, 2, -1}, {9799, 200, -1},
            {9800, 0, 9800}, {9800, 1, -1}, {9800, 200, -1}, {9800, 201, -1}, {9800, -1, -1}};
        for (int[] row : rows) {
            MarkGuards x = at(row[0]);
            x.check(0);
            int place = x.count(5);
            int total = x.count(8);
            Due.same("go(" + row[1] + ") at " + row[0], x.go(row[1]), row[2]);
            Due.same("the STEP then", x.count(4), row[2] < 0 ? row[0] : row[2]);
            if (row[2] < 0) {
                Due.same("the BLOCK stays", x.count(5), place);
                Due.same("TOTAL stays", x.count(8), total);
                Due.same("it can still be undone", x.undo(), 0);
            }
        }
        MarkGuards none = new MarkGuards();
        for (int i = 0; i < 49; i++) {
            none.go(200);
        }
        Due.same("without BLOCKS, too", none.go(1), -1);
        MarkGuards x = at(9800);
        Due.same("ahead of it", x.ahead(200, 2) > 0, true);
        Due.same("keep", x.keep(), 9800);
        Due.same("a text begins anew", Due.read(x, THREE), 8);
        Due.same("go again", x.go(200), 200);
    }

    private static void ahead() {
        Due.says("Promise 15", "AHEAD (n 0 .. 200), what 0 BLOCK (-2: there are none), 1 MARK, 2 TOTAL, 3 ALARMS, 4 JUMPS.");
        MarkGuards x = Due.of("block a 1 5;block b 2 7;edge a b;edge b b;check b;jump 50;law land 1;");
        x.go(1);
        int[] now = {1, 2, 0, 0, 0};
        // MARK is right in b: no ALARM, and it stays so, round b
        int[] then = {1, 2, 1400, 0, 200};
        for (int what = 0; what < 5; what++) {
            Due.same("ahead(0, " + what + ")", x.ahead(0, what), now[what]);
            Due.same("ahead(200, " + what + ")", x.ahead(200, what), then[what]);
        }
        MarkGuards none = new MarkGuards();
        int[] due = {-2, 0, 0, 0, 0};
        for (int what = 0; what < 5; what++) {
            Due.same("without BLOCKS ahead(0, " + what + ")", none.ahead(0, what), due[what]);
            Due.same("without BLOCKS ahead(200, " + what + ")", none.ahead(200, what), due[what]);
        }
        Due.says("Promise 15", "NONE: no such ones.");
        for (int what = 0; what < 5; what++) {
            int w = what;
            Twin.refuses("ahead(.., " + what + ")", -1, (y, n) -> y.ahead(n, w), -1, 201, 202, 256, MOST, LEAST);
            Due.same("without BLOCKS ahead(201, " + what + ")", none.ahead(201, what), -1);
            Due.same("without BLOCKS ahead(-1, " + what + ")", none.ahead(-1, what), -1);
        }
        Twin.refuses("ahead(1, ..)", -1, (y, n) -> y.ahead(1, n), -1, 5, 6, 32, MOST, LEAST);
        Due.same("without BLOCKS ahead(0, 5)", none.ahead(0, 5), -1);
        Due.same("without BLOCKS ahead(0, -1)", none.ahead(0, -1), -1);
    }

    private static void comes() {
        Due.says("Promise 16", "COMES; -2: not by then; NONE: no such BLOCK.");
        String text = "block a 1 1;block b 1 1;block c 1 1;edge a a;edge a b;law turn step=";
        Due.same("now", Due.of(text + "5;").comes(0), 0);
        Due.same("in 199", Due.of(text + "198;").comes(1), 199);
        Due.same("in 200", Due.of(text + "199;").comes(1), -2);
        Due.same("never", Due.of(text + "5;").comes(2), -2);
        Twin.refuses("comes", -1, MarkGuards::comes, NO_BLOCKS);
        Due.same("the ninth", Due.of(EIGHT).comes(8), -1);
        Due.same("the eighth", Due.of(EIGHT).comes(7), -2);
        Due.same("without BLOCKS", new MarkGuards().comes(0), -1);
    }

    private static void lastCall() {
        Due.says("What it is", "An object is used for at most 512 calls after it has been made;");
        MarkGuards x = new MarkGuards();
        for (int call = 1; call <= 512; call++) {
            Due.same("call " + call, x.go(1), call);
        }
        MarkGuards y = new MarkGuards();
        int calls = 0;
        while (calls < 512 - 14) {
            Due.same("LINES", Due.read(y, THREE), 8);
            calls += 7;
        }
        Due.same("of the last calls", y.go(6), 6);
        Due.same("of the last calls", y.count(8), 7 + 9 + 5 + 9 + 5 + 7);
    }
}
