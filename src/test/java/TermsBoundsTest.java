import java.util.Arrays;

/**
 * "Terms", sentence by sentence: the bounds of a TEXT on both sides, and the five FAULTS with their places.
 * In a faulty text '^' stands at the place of the fault.
 */
public final class TermsBoundsTest {
    private static final String[] LANGUAGE = {"block", "edge", "check", "base", "limit", "jump", "seed", "law", "out",
        "turn", "land", "or", "and", "not", "work", "visits", "mark", "place", "ways", "total", "step"};
    private static final String[] RULES = {"out", "turn", "land"};
    private static final String AB = "block a 1 1;block b 2 2;edge a b;edge b a;";

    public static void main(String[] args) {
        texts();
        lines();
        rules();
        words();
        blanks();
        formulas();
        numbersOfFormulas();
        names();
        signsOfTwo();
        blocks();
        edges();
        checks();
        bases();
        settings();
        numbering();
        firstFault();
        leastFaultOfOnePlace();
        noTokens();
        tooMuch();
        toldAlready();
        notToldAhead();
        noBases();
        Due.finish();
    }

    private static String blanks(int n) {
        return " ".repeat(n);
    }

    private static boolean isOneOf(String word, String words) {
        return Arrays.asList(words.split(" ")).contains(word);
    }

    private static void texts() {
        Due.says("Terms", "A TEXT: { LINE ';' }.");
        Due.right("", 0);
        Due.right(" ", 0);
        Due.right("\n \n", 0);
        Due.right("limit 1;", 1);
        Due.right("limit 1;jump 1;", 2);
        Due.right(blanks(692) + "limit 1;", 1);
        Due.right("limit 1;" + blanks(692), 1);
        Due.faulty(1, "^;");
        Due.faulty(1, "limit 1^");
        Due.faulty(1, "limit 1  ^");
        Due.faulty(1, "limit 1;^;");
        Due.faulty(1, "limit 1 ^jump 1;");
        Due.faulty(1, blanks(693) + "limit 1^");
    }

    /** The LINE cut behind each part, with ';' in place of each part, and with a part too much. */
    private static void lineOf(String ahead, String... parts) {
        StringBuilder text = new StringBuilder(ahead + parts[0]);
        for (int i = 1; i < parts.length; i++) {
            Due.faulty(1, text + "^");
            Due.faulty(1, text + " ^;");
            Due.faulty(1, text + " ^)");
            text.append(' ').append(parts[i]);
        }
        Due.faulty(1, text + "^");
        Due.faulty(1, text + " ^7;");
        Due.faulty(1, text + " ^x;");
        Due.faulty(1, text + " ^limit 1;");
        Due.right(text + ";", ahead.isEmpty() ? 1 : 5);
    }

    private static void lines() {
        Due.says("Terms", "LINE: block W N N | edge W W | check W | base W W | limit N | jump N | seed N | law RULE E.");
        lineOf("", "block", "z", "3", "4");
        lineOf(AB, "edge", "a", "a");
        lineOf(AB, "check", "a");
        lineOf(AB, "base", "b", "a");
        lineOf("", "limit", "3");
        lineOf("", "jump", "3");
        lineOf("", "seed", "3");
        lineOf("", "law", "out", "3");
        for (String word : LANGUAGE) {
            if (isOneOf(word, "block edge check base limit jump seed law")) {
                Due.faulty(1, word + "^");
            } else {
                Due.faulty(1, "^" + word + " 1;");
            }
        }
        Due.faulty(1, "^x 1;");
        Due.faulty(1, "^1;");
        Due.faulty(1, "block ^1 1 1;");
        Due.faulty(1, "block a ^b 1;");
        Due.faulty(1, "block a 1 ^b;");
        Due.faulty(1, "limit ^a;");
        Due.faulty(1, AB + "edge ^1 a;");
        Due.faulty(1, AB + "edge a ^1;");
        Due.faulty(1, AB + "check ^1;");
        Due.faulty(1, AB + "base ^1 a;");
        Due.faulty(1, AB + "base a ^1;");
    }

    private static void rules() {
        Due.says("Terms", "RULE: out | turn | land.");
        for (String rule : RULES) {
            Due.right("law " + rule + " 1;", 1);
            Due.faulty(1, "law ^" + rule + "s 1;");
        }
        for (String word : LANGUAGE) {
            if (!isOneOf(word, "out turn land")) {
                Due.faulty(1, "law ^" + word + " 1;");
            }
        }
        Due.faulty(1, "law ^1;");
        Due.faulty(1, "law ^x 1;");
    }

    private static void words() {
        Due.says("Terms", "Words: small letters in a row; W: one of 1 .. 6 letters, none of those of the language; N: digits.");
        Due.right("block a 1 1;", 1);
        Due.right("block abcdef 1 1;", 1);
        Due.faulty(1, "block ^abcdefg 1 1;");
        Due.faulty(1, "block ^" + "a".repeat(600) + " 1 1;");
        Due.right("block az 1 1;block za 1 1;", 2);
        Due.faulty(1, "block ^` 1 1;");
        Due.faulty(1, "block ^{ 1 1;");
        Due.faulty(1, "block ^A 1 1;");
        Due.faulty(1, "block ^Z 1 1;");
        Due.faulty(1, "block a ^` 1;");
        Due.faulty(1, "block a^A 1 1;");
        Due.faulty(1, "block ab ^c 1 1;");
        Due.faulty(1, "^bl ock a 1 1;");
        for (String word : LANGUAGE) {
            Due.faulty(1, "block ^" + word + " 1 1;");
            Due.faulty(1, AB + "edge ^" + word + " a;");
            Due.faulty(1, AB + "edge a ^" + word + ";");
            Due.faulty(1, AB + "check ^" + word + ";");
            Due.faulty(1, AB + "base ^" + word + " a;");
            Due.faulty(1, AB + "base a ^" + word + ";");
            Due.right("block q" + word.substring(1) + " 1 1;", 1);
            if (word.length() < 6) {
                Due.right("block " + word + "x 1 1;", 1);
            } else {
                Due.faulty(1, "block ^" + word + "x 1 1;");
            }
        }
        Due.right("limit 9;", 1);
        Due.right("seed 0;", 1);
        Due.right("seed 0000000000012345;", 1);
        Due.faulty(1, "limit ^/;");
        Due.faulty(1, "limit ^:;");
        Due.faulty(1, "limit 1^:;");
        Due.faulty(1, "limit 1 ^2;");
        Due.faulty(1, "limit ^+1;");
        Due.faulty(1, "limit ^-1;");
        Due.faulty(1, "block a1 1 ^1;");
    }

    private static void blanks() {
        Due.says("Terms", "Blanks 10, 32.");
        for (int sign = 0; sign < 256; sign++) {
            String text = "limit" + (char) sign + "3;";
            boolean letter = sign >= 'a' && sign <= 'z';
            if (sign == 10 || sign == 32 || sign >= '0' && sign <= '3') {
                Due.right(text, 1);
            } else {
                Due.faulty(text, sign >= '4' && sign <= '9' ? 2 : 1, letter ? 0 : 5);
            }
        }
        Due.right("\n\n  block\na \n 1\n\n1 ; limit\n1\n;\n ", 2);
        Due.right("block a1 1;limit1;law out(1)<(2)and(3)or not(4);", 3);
    }

    private static void value(String formula, long due) {
        for (int what = 0; what < 3; what++) {
            MarkGuards x = Due.of("block a 1 5;law " + RULES[what] + " " + formula + ";");
            Due.same("law " + RULES[what] + " " + formula, x.law(what, 0), due);
        }
    }

    /** A fault of E, in each law. */
    private static void faultyFormula(int code, String marked) {
        for (String rule : RULES) {
            Due.faulty(code, "law " + rule + " " + marked + ";");
        }
    }

    private static void formulas() {
        Due.says("Terms", "E: A { or A }. A: B { and B }. B: not B | C. C: S [ ( < | <= | = | <> | >= | > ) S ]. "
            + "S: T { ( + | - ) T }. T: P { ( * | / ) P }. P: N | NAME | '(' E ')'");
        value("1 or 0 and 0", 1);
        value("(1 or 0) and 0", 0);
        value("0 and 0 or 1", 1);
        value("1 or 1 or 1", 1);
        value("1 and 1 and 0", 0);
        value("not 0 and 0", 0);
        value("not (0 and 0)", 1);
        value("not not not 1", 0);
        value("not 1 < 2", 0);
        value("(not 1) < 2", 1);
        value("not 0 + 1", 0);
        value("1 + 2 < 2 + 2", 1);
        value("2 * 3 < 7 - 0", 1);
        value("(1 < 2) < 2", 1);
        value("1 < (2 < 2)", 0);
        value("9 - 3 - 2", 4);
        value("9 - (3 - 2)", 8);
        value("2 + 3 * 4", 14);
        value("(2 + 3) * 4", 20);
        value("100 / 10 / 5", 2);
        value("100 / (10 / 5)", 50);
        value("((((((((7))))))))", 7);
        faultyFormula(1, "^");
        faultyFormula(1, "^)");
        faultyFormula(1, "(^)");
        faultyFormula(1, "(1^");
        faultyFormula(1, "1^)");
        faultyFormula(1, "1 ^2");
        faultyFormula(1, "1 ^work");
        faultyFormula(1, "1 ^not 1");
        faultyFormula(1, "1 ^(1)");
        faultyFormula(1, "(1) ^1");
        faultyFormula(1, "not^");
        faultyFormula(1, "1 < 2 ^< 3");
        faultyFormula(1, "1 = 2 + 3 ^<> 3");
        faultyFormula(1, "not 1 < 2 ^>= 3");
        faultyFormula(1, "1 < ^not 2");
        faultyFormula(1, "1 + ^not 2");
        faultyFormula(1, "1 * ^not 2");
        for (String sign : new String[] {"or", "and", "<", "<=", "=", "<>", ">=", ">", "+", "-", "*", "/"}) {
            faultyFormula(1, "^" + sign + " 1");
            faultyFormula(1, "(^" + sign + " 1)");
            faultyFormula(1, "1 " + sign + "^");
            faultyFormula(1, "(1 " + sign + "^)");
            faultyFormula(1, "1 " + sign + " ^" + sign + " 1");
            faultyFormula(1, "not ^" + sign + " 1");
        }
    }

    private static void numbersOfFormulas() {
        Due.says("Terms", "; N of E 0 .. 9999.");
        value("0", 0);
        value("9999", 9999);
        value("00009999", 9999);
        faultyFormula(2, "^10000");
        faultyFormula(2, "9999 + ^10000");
        faultyFormula(2, "^00010000");
        faultyFormula(1, "^-1");
        // numbers that are small ones again, if what is above 32 or 64 bits is lost
        faultyFormula(2, "^4294967296");
        faultyFormula(2, "^4294967297");
        faultyFormula(2, "^18446744073709551617");
        faultyFormula(2, "^1" + "0".repeat(300));
    }

    private static void names() {
        Due.says("Terms", "NAME: work visits mark place ways total step.");
        for (String word : LANGUAGE) {
            if (isOneOf(word, "work visits mark place ways total step")) {
                value(word + "*0+3", 3);
            } else if (!word.equals("not")) {
                faultyFormula(1, "^" + word + "*0");
                faultyFormula(1, "1+^" + word);
            }
        }
        faultyFormula(1, "^works");
        faultyFormula(1, "^wor");
        faultyFormula(1, "^a");
        Due.faulty(1, "block a 1 1;law out ^a;");
    }

    private static void signsOfTwo() {
        Due.says("Terms", "A = (or > behind <) right behind < or > belongs to it.");
        value("2<=2", 1);
        value("2<>2", 0);
        value("2>=2", 1);
        value("2 <= 2", 1);
        faultyFormula(1, "2< ^=2");
        faultyFormula(1, "2<\n^=2");
        faultyFormula(1, "2< ^>2");
        faultyFormula(1, "2> ^=2");
        faultyFormula(1, "2>^<2");
        faultyFormula(1, "2>^>2");
        faultyFormula(1, "2<^<2");
        faultyFormula(1, "2=^=2");
        faultyFormula(1, "2=^<2");
        faultyFormula(1, "2=^>2");
        faultyFormula(1, "2<=^=2");
        faultyFormula(1, "2<>^=2");
        faultyFormula(1, "2>=^>2");
        MarkGuards x = new MarkGuards();
        Due.feed(x, "law out 2<=2;");
        Due.same("'=' behind the first n bytes", x.text(10), -1);
        Due.same("what is due is missing", x.fault(0) * 100 + x.fault(1), 110);
    }

    private static String blocks(int n) {
        StringBuilder text = new StringBuilder();
        for (int b = 0; b < n; b++) {
            text.append("block ").append((char) ('a' + b)).append(' ').append(b + 1).append(" 1;");
        }
        return text.toString();
    }

    private static void blocks() {
        Due.says("Terms", "BLOCKS, at most 8: SIGN 0 .. 255, WORK 0 .. 99; the ENTRY is the first.");
        Due.same("no BLOCK", Due.right("", 0).count(0), 0);
        Due.same("one BLOCK", Due.right(blocks(1), 1).count(0), 1);
        Due.same("eight BLOCKS", Due.right(blocks(8), 8).count(0), 8);
        Due.faulty(2, blocks(8) + "^block i 1 1;");
        Due.same("SIGN 0", Due.right("block a 0 1;", 1).block(0, 0), 0);
        Due.same("SIGN 255", Due.right("block a 255 1;", 1).block(0, 0), 255);
        Due.same("SIGN 255 with zeros ahead", Due.right("block a 000255 1;", 1).block(0, 0), 255);
        Due.faulty(2, "block a ^256 1;");
        Due.faulty(1, "block a ^-1 1;");
        Due.faulty(2, "block a ^4294967297 1;");
        Due.same("WORK 0", Due.right("block a 1 0;", 1).block(0, 1), 0);
        Due.same("WORK 99", Due.right("block a 1 99;", 1).block(0, 1), 99);
        Due.faulty(2, "block a 1 ^100;");
        Due.faulty(1, "block a 1 ^-1;");
        Due.faulty(2, "block a 1 ^4294967297;");
        MarkGuards x = Due.right("block z 9 1;block a 5 2;", 2);
        Due.same("one stands in the first", x.count(5), 0);
        Due.same("with its SIGN", x.count(6), 9);
    }

    /** Sixteen EDGES, two from each of eight BLOCKS. */
    private static String sixteen() {
        StringBuilder text = new StringBuilder();
        for (int e = 0; e < 16; e++) {
            text.append("edge ").append((char) ('a' + e / 2)).append(' ').append((char) ('a' + e % 2)).append(';');
        }
        return text.toString();
    }

    private static void edges() {
        Due.says("Terms", "EDGES, at most 16: from a BLOCK to a BLOCK (itself, too; each two in this order once, "
            + "at most 3 from one).");
        Due.same("no EDGE", Due.right(blocks(8), 8).count(1), 0);
        Due.same("one EDGE", Due.right(blocks(2) + "edge b a;", 3).count(1), 1);
        Due.same("sixteen EDGES", Due.right(blocks(8) + sixteen(), 24).count(1), 16);
        Due.faulty(2, blocks(8) + sixteen() + "^edge h h;");
        Due.same("to itself", Due.right(blocks(1) + "edge a a;", 2).edge(0, 1), 0);
        Due.same("the other order is another one", Due.right(blocks(2) + "edge a b;edge b a;", 4).count(1), 2);
        Due.faulty(3, blocks(2) + "edge a b;edge a ^b;");
        Due.faulty(3, blocks(1) + "edge a a;edge a ^a;");
        Due.same("three from one", Due.right(blocks(4) + "edge a a;edge a b;edge a c;", 7).block(0, 4), 3);
        Due.faulty(2, blocks(4) + "edge a a;edge a b;edge a c;edge ^a d;");
        Due.same("eight to one", Due.right(blocks(8) + "edge a h;edge b h;edge c h;edge d h;edge e h;edge f h;edge g h;"
            + "edge h h;", 16).block(7, 5), 8);
    }

    private static void checks() {
        Due.says("Terms", "check: a CHECK in a BLOCK (each once).");
        Due.same("none", Due.right(blocks(8), 8).count(2), 0);
        StringBuilder text = new StringBuilder(blocks(8));
        for (int b = 0; b < 8; b++) {
            text.append("check ").append((char) ('h' - b)).append(';');
            Due.same("CHECKS", Due.right(text.toString(), 9 + b).count(2), b + 1);
            Due.faulty(3, text + "check ^" + (char) ('h' - b) + ";");
        }
        Due.faulty(3, text + "check ^h;");
    }

    private static void bases() {
        Due.says("Terms", "base: of a BLOCK to which an EDGE leads from the other one (each once; an EDGE told ahead).");
        Due.same("told", Due.right(blocks(3) + "edge a c;edge b c;base c b;", 6).base(2), 1);
        Due.same("of itself", Due.right(blocks(2) + "edge b a;edge a a;base a a;", 5).base(0), 0);
        Due.same("the only one", Due.right(blocks(2) + "edge a b;base b a;", 4).base(1), 0);
        Due.faulty(3, blocks(3) + "edge a c;edge b c;base c b;base ^c a;");
        Due.faulty(3, blocks(3) + "edge a c;edge b c;base c b;base ^c b;");
        Due.faulty(3, blocks(3) + "edge a c;edge b c;base c a;base ^c a;");
        Due.faulty(3, blocks(3) + "edge a c;edge b c;base c a;base ^c b;");
        Due.faulty(5, blocks(2) + "edge a b;base a ^b;");
        Due.faulty(5, blocks(2) + "edge a a;base b ^a;");
        Due.faulty(5, blocks(3) + "edge a c;base c ^b;edge b c;");
        StringBuilder text = new StringBuilder(blocks(8));
        for (int b = 0; b < 8; b++) {
            text.append("edge ").append((char) ('a' + b)).append(' ').append((char) ('a' + b)).append(';');
        }
        for (int b = 0; b < 8; b++) {
            text.append("base ").append((char) ('a' + b)).append(' ').append((char) ('a' + b)).append(';');
        }
        Due.same("of each BLOCK", Due.right(text.toString(), 24).base(7), 7);
    }

    /** A chain of eight BLOCKS, a CHECK in the last one: a SLIP into the first one is CAUGHT in eight STEPS. */
    private static int caughtInChain(String limit) {
        StringBuilder text = new StringBuilder(blocks(8));
        for (int b = 0; b < 7; b++) {
            text.append("edge ").append((char) ('a' + b)).append(' ').append((char) ('b' + b)).append(';');
        }
        return Due.of(text + "check h;" + limit).cover(2);
    }

    /** JUMPS in 200 STEPS round one BLOCK. */
    private static int jumps(String settings) {
        MarkGuards x = Due.of("block a 1 1;edge a a;" + settings);
        x.go(200);
        return x.count(10);
    }

    private static void settings() {
        Due.says("Terms", "limit: 1 .. 40 (10).");
        Due.right("limit 1;", 1);
        Due.right("limit 40;", 1);
        Due.faulty(2, "limit ^0;");
        Due.faulty(2, "limit ^00;");
        Due.faulty(2, "limit ^41;");
        Due.faulty(2, "limit ^4294967297;");
        Due.so("without it eight STEPS are in limit, as by 10", caughtInChain("") == caughtInChain("limit 10;")
            && caughtInChain("") == caughtInChain("limit 8;") && caughtInChain("") > caughtInChain("limit 7;"));
        Due.same("40 holds all that 8 do", caughtInChain("limit 40;"), caughtInChain("limit 8;"));
        Due.says("Terms", "jump: of a hundred 0 .. 100 (0).");
        Due.same("jump 0", jumps("jump 0;"), 0);
        Due.same("jump 100", jumps("jump 100;"), 200);
        Due.same("without it none", jumps(""), 0);
        Due.so("jump 1 and 99", jumps("jump 1;") < jumps("jump 99;") && jumps("jump 99;") < 200);
        Due.faulty(2, "jump ^101;");
        Due.faulty(2, "jump ^4294967297;");
        Due.faulty(1, "jump ^-1;");
        Due.says("Terms", "seed: 0 .. 99999 (0).");
        Due.right("seed 0;", 1);
        Due.right("seed 99999;", 1);
        Due.faulty(2, "seed ^100000;");
        Due.faulty(2, "seed ^4294967297;");
        Due.faulty(1, "seed ^-1;");
        Due.same("without it as by 0", jumps("jump 50;"), jumps("jump 50;seed 0;"));
        Due.so("by another one otherwise", jumps("jump 50;") != jumps("jump 50;seed 99999;"));
    }

    private static void numbering() {
        Due.says("Terms", "All numbered as they come; BLOCKS have names.");
        MarkGuards x = Due.right("block zb 1 1;block a 2 2;edge a zb;block zbz 3 3;edge zb a;edge a a;", 6);
        Due.same("zb", x.named(26 << 25 | 2 << 20), 0);
        Due.same("a", x.named(1 << 25), 1);
        Due.same("zbz", x.named(26 << 25 | 2 << 20 | 26 << 15), 2);
        Due.same("the first EDGE", x.edge(0, 0) * 10 + x.edge(0, 1), 10);
        Due.same("the second EDGE", x.edge(1, 0) * 10 + x.edge(1, 1), 1);
        Due.same("the last EDGE", x.edge(2, 0) * 10 + x.edge(2, 1), 11);
    }

    private static void firstFault() {
        Due.says("Terms", "FAULTS, the first along the text");
        Due.faulty(2, "limit ^41 #;");
        Due.faulty(1, "^# limit 41;");
        Due.faulty(2, "limit 1;jump ^101;limit 1;");
        Due.faulty(3, "limit 1;^limit 41;");
        Due.faulty(4, "check ^a;limit 41;");
        Due.faulty(5, blocks(1) + "base a ^a;limit 41;");
        Due.faulty(4, "edge ^a 1;");
        Due.faulty(4, "edge ^a");
        Due.faulty(4, "base ^a");
        Due.faulty(3, blocks(1) + "block ^a 256 100;");
        Due.faulty(2, "block a ^256 100;");
        Due.faulty(1, "law ^x 10000;");
        Due.faulty(2, "law out ^10000");
        Due.faulty(2, "law out ^10000)");
    }

    private static void leastFaultOfOnePlace() {
        Due.says("Terms", "(of one place the least), with its place:");
        Due.faulty(1, "limit 1 ^41;");
        Due.faulty(1, "law out 1 ^10000;");
        Due.faulty(1, "law ^10000;");
        Due.faulty(1, "law out ((((((((1^(1))))))))));");
        Due.faulty(1, "law out ((((((((1)^(1))))))));");
        Due.faulty(1, "law out not " + sum(32) + " ^1;");
        Due.faulty(1, "law out not " + sum(32) + " ^not 1;");
        Due.faulty(1, "law out not " + sum(32) + " ^work;");
        Due.faulty(1, "law out not " + sum(31) + "<1 ^<1;");
        Due.faulty(4, blocks(1) + "base a ^b;");
        Due.faulty(4, blocks(1) + "edge a a;base a ^b;");
        Due.faulty(1, "check ^abcdefg;");
        Due.faulty(1, blocks(1) + "edge a ^abcdefg;");
    }

    private static void noTokens() {
        Due.says("Terms", "1 a TOKEN that is none (a word of more than 6 letters that is none of the language, too) "
            + "or can't stand there (the length, if more must come).");
        for (char none : new char[] {'#', '!', '"', '$', '\'', ',', '.', ':', '?', '@', '[', '_', '~', '\t', '\r', 0, 127, 128, 255}) {
            Due.faulty(1, "^" + none);
            Due.faulty(1, "limit 1;^" + none);
            Due.faulty(1, "limit 1^" + none + ";");
            Due.faulty(1, "limit ^" + none + ";");
            Due.faulty(1, "law out 1^" + none + ";");
            Due.faulty(1, "law out ^" + none + ";");
        }
        Due.faulty(1, "^abcdefg 1;");
        Due.faulty(1, "^blockss 1;");
        Due.faulty(1, "block ^visitss 1 1;");
        Due.faulty(1, "block a ^abcdefg 1;");
        Due.faulty(1, "law out ^visitss;");
        Due.faulty(1, "law out 1 ^abcdefg;");
        Due.faulty(1, "block^");
        Due.faulty(1, "block ^");
        Due.faulty(1, "block\n ^");
        Due.faulty(1, "law out (1^");
        Due.faulty(1, "law out 1 +^");
        Due.faulty(1, "law out 1 + \n^");
    }

    private static String sum(int numbers) {
        return "1" + "+1".repeat(numbers - 1);
    }

    private static void tooMuch() {
        Due.says("Terms", "2 too much (at it): a number beyond what is said,");
        Due.faulty(2, "block a ^256 1;");
        Due.faulty(2, "block a 255 ^100;");
        Due.faulty(2, "limit ^0;");
        Due.faulty(2, "limit ^41;");
        Due.faulty(2, "jump ^101;");
        Due.faulty(2, "seed ^100000;");
        Due.faulty(2, "law out ^10000;");
        Due.says("Terms", "a ninth block and so on (at the word of the LINE),");
        Due.faulty(2, blocks(8) + "^block i 1 1;");
        Due.faulty(2, blocks(8) + "^block a 1 1;");
        Due.faulty(2, blocks(8) + "^block");
        Due.faulty(2, blocks(8) + "limit 1;^block #");
        Due.faulty(2, blocks(8) + sixteen() + "^edge c c;");
        Due.faulty(2, blocks(8) + sixteen() + "^edge a a;");
        Due.faulty(2, blocks(8) + sixteen() + "^edge z z;");
        Due.faulty(2, blocks(8) + sixteen() + "^edge");
        Due.faulty(2, blocks(8) + sixteen() + "limit 1;^edge;");
        Due.says("Terms", "a fourth EDGE from one BLOCK (at the first W, ahead of what the second W is),");
        String three = blocks(4) + "edge b a;edge b b;edge b c;";
        Due.right(three, 7);
        Due.faulty(2, three + "edge ^b d;");
        Due.faulty(2, three + "edge ^b a;");
        Due.faulty(2, three + "edge ^b z;");
        Due.faulty(2, three + "edge ^b 1;");
        Due.faulty(2, three + "edge ^b #;");
        Due.faulty(2, three + "edge ^b");
        Due.right(three + "edge a b;edge c b;edge d b;", 10);
        tooManyOpen();
        tooManyKnots();
    }

    private static void tooManyOpen() {
        Due.says("Terms", "a ninth '(' open,");
        faultyFormula(2, "((((((((^(1)))))))))");
        faultyFormula(2, "((((((((^(");
        faultyFormula(2, "1+((((((((1+^(1)))))))))");
        faultyFormula(2, "not (not (not (not (not (not (not (not (not ^(1)))))))))");
        value("((((((((1))))))))", 1);
        value("((((((((1))))))))+((((((((2))))))))", 3);
        value("((((((((1)+(2)+(3))))))))", 6);
        faultyFormula(2, "((((((((1)+(2)+(^(3))))))))))");
        Due.right("law out ((((((((1))))))));law turn ((((((((1))))))));law land ((((((((1))))))));", 3);
    }

    private static void tooManyKnots() {
        Due.says("Terms", "a 65th KNOT of all E (N, NAMES, signs, not, and, or: one each).");
        Due.same("no KNOTS", Due.right("", 0).count(3), 0);
        Due.same("one KNOT", Due.right("law out 1;", 1).count(3), 1);
        Due.same("63 KNOTS", Due.right("law out " + sum(32) + ";", 1).count(3), 63);
        Due.same("64 KNOTS", Due.right("law out not " + sum(32) + ";", 1).count(3), 64);
        Due.same("'(' is none", Due.right("law out not " + "(".repeat(8) + sum(32) + ")".repeat(8) + ";", 1).count(3), 64);
        Due.faulty(2, "law out not " + sum(32) + "^+1;");
        Due.faulty(2, "law out " + sum(32) + "+^1;");
        Due.faulty(2, "law out " + sum(32) + "+^work;");
        Due.faulty(2, "law out " + sum(32) + " and ^not 1;");
        Due.faulty(2, "law out " + sum(32) + " or ^not 1;");
        Due.faulty(2, "law out " + sum(32) + " and (^not 1);");
        for (String sign : new String[] {" and ", " or ", "<", "<=", "=", "<>", ">=", ">", "+", "-", "*", "/"}) {
            Due.same("a KNOT of" + sign, Due.right("law out 1" + sign + "work;", 1).count(3), 3);
            String full = "law out not " + sum(32);
            int blank = sign.startsWith(" ") ? 1 : 0;
            Due.faulty(2, full + sign.substring(0, blank) + "^" + sign.substring(blank) + "1;");
        }
        Due.same("not, not", Due.right("law out not not 1;", 1).count(3), 3);
        Due.same("of all laws", Due.right("law out not " + sum(11) + ";law turn " + sum(11) + ";law land " + sum(11) + ";", 3)
            .count(3), 64);
        Due.faulty(2, "law out not " + sum(11) + ";law turn " + sum(11) + ";law land " + sum(11) + "^+1;");
        Due.faulty(2, "law out not " + sum(32) + ";law turn ^1;");
        Due.faulty(1, "law out not " + sum(32) + ";law turn ^;");
        Due.right("law out not " + sum(32) + ";limit 1;", 2);
        Due.right("law out 1" + "+(1".repeat(8) + "*work".repeat(23) + ")".repeat(8) + ";", 1);
    }

    private static void toldAlready() {
        Due.says("Terms", "3 told already: a name (at W),");
        Due.faulty(3, blocks(7) + "block ^a 1 1;");
        Due.faulty(3, blocks(7) + "block ^g 1 1;");
        Due.faulty(3, blocks(1) + "block ^a;");
        Due.right(blocks(1) + "block aa 1 1;block b 1 1;", 3);
        Due.says("Terms", "an EDGE (at the second W),");
        Due.faulty(3, AB + "edge a ^b;");
        Due.faulty(3, AB + "edge b ^a 1");
        Due.right(AB + "edge a a;edge b b;", 6);
        Due.says("Terms", "a CHECK, a base of that BLOCK (at the first W),");
        Due.faulty(3, AB + "check a;check ^a;");
        Due.faulty(3, AB + "check a;check b;check ^a");
        Due.faulty(3, AB + "base a b;base ^a b;");
        Due.faulty(3, AB + "base a b;base ^a z;");
        Due.faulty(3, AB + "base a b;base ^a");
        Due.faulty(3, AB + "base b a;base ^b a;");
        Due.right(AB + "check a;check b;base a b;base b a;", 8);
        Due.says("Terms", "limit, jump, seed (at the word),");
        for (String setting : new String[] {"limit", "jump", "seed"}) {
            Due.faulty(3, setting + " 1;^" + setting + " 1;");
            Due.faulty(3, setting + " 1;^" + setting + " 999999;");
            Due.faulty(3, setting + " 1;^" + setting);
            Due.faulty(3, setting + " 1;law out 1;^" + setting + ";");
        }
        Due.faulty(3, "jump 0;^jump 0;");
        Due.faulty(3, "seed 0;^seed 0;");
        Due.faulty(3, "limit 10;^limit 10;");
        Due.right("limit 1;jump 1;seed 1;", 3);
        Due.says("Terms", "a law of its RULE (at RULE).");
        for (String rule : RULES) {
            Due.faulty(3, "law " + rule + " 1;law ^" + rule + " 1;");
            Due.faulty(3, "law " + rule + " 0;law ^" + rule);
            Due.faulty(3, "law out 1;law turn 1;law land 1;law ^" + rule + " 10000;");
        }
        Due.right("law out 1;law turn 1;law land 1;", 3);
    }

    private static void notToldAhead() {
        Due.says("Terms", "4 a BLOCK that isn't told ahead (at W).");
        Due.faulty(4, "edge ^a a;");
        Due.faulty(4, "edge ^a a;block a 1 1;");
        Due.faulty(4, blocks(1) + "edge a ^b;");
        Due.faulty(4, blocks(1) + "edge a ^b;block b 1 1;");
        Due.faulty(4, blocks(1) + "edge ^b a;");
        Due.faulty(4, "check ^a;");
        Due.faulty(4, blocks(1) + "check ^aa;");
        Due.faulty(4, "base ^a a;");
        Due.faulty(4, blocks(8) + "base ^i a;");
        Due.faulty(4, blocks(8) + "base a ^i;");
        Due.right(blocks(8) + "edge h h;check h;base h h;", 11);
        MarkGuards x = Due.right(blocks(8), 8);
        Due.same("BLOCKS of a text ahead are none of this one", Due.read(x, "check a;"), -1);
        Due.same("fault(0)", x.fault(0), 4);
    }

    private static void noBases() {
        Due.says("Terms", "5 a base from which no EDGE told ahead leads to that BLOCK (at the second W).");
        Due.faulty(5, blocks(1) + "base a ^a;");
        Due.faulty(5, blocks(2) + "edge a b;base a ^b;");
        Due.faulty(5, blocks(2) + "edge a b;base b ^b;");
        Due.faulty(5, blocks(2) + "base b ^a;edge a b;");
        Due.faulty(5, blocks(3) + "edge a b;edge b c;base c ^a;");
        Due.faulty(5, blocks(2) + "edge a b;base a ^b");
        Due.right(blocks(2) + "edge a b;base b a;", 4);
        Due.right(blocks(8) + sixteen() + "base b h;", 25);
    }
}
