/** Promises 1 to 5: a new object, feed, text and its faults, fault, named. */
public final class TextTest {
    private static final String THREE = "block a 1 5;block b 2 7;block c 4 9;edge a b;edge a c;edge b c;edge c a;"
        + "check c;limit 3;";

    public static void main(String[] args) {
        newObject();
        feeding();
        reading();
        readingAnew();
        stayingWithFault();
        tokens();
        tooMuch();
        toldAlready();
        notTold();
        formulas();
        knots();
        names();
        Due.finish();
    }

    private static void newObject() {
        MarkGuards x = new MarkGuards();
        int[] due = {0, 0, 0, 0, 0, -2, 0, 0, 0, 0, 0, 0, 0, 0, 0};
        for (int what = 0; what < due.length; what++) {
            Due.same("count(" + what + ") of a new object", x.count(what), due[what]);
        }
        Due.same("text(1) of a new object", x.text(1), -2);
        Due.same("text(0) of a new object", x.text(0), 0);
        Due.same("fault(0) of a new object", x.fault(0), 0);
        Due.same("fault(1) of a new object", x.fault(1), -1);
        Due.same("feed to a new object", x.feed(0, 0, 0, 0, 0), 20);
    }

    private static void feeding() {
        MarkGuards x = new MarkGuards();
        for (int n = 20; n <= 700; n += 20) {
            Due.same("feed", x.feed(0x20202020, 0x20202020, 0x0a0a0a0a, 0x20202020, 0x20202020), n);
        }
        Due.same("feed beyond 700", x.feed(1, 2, 3, 4, 5), -1);
        Due.same("text(701)", x.text(701), -2);
        Due.same("text(700), none came", x.text(700), 0);
        Due.same("the TAPE is empty behind text", x.feed(0x6c696d69, 0x7420333b, 0x6a756d70, 0x20343b20, -1), 20);
        Due.same("the highest byte comes first", x.text(16), 2);
        Due.same("jump 4", x.holds(1, 0), 24);
        x.feed(-1, -1, -1, -1, -1);
        Due.same("bytes above 127", x.text(20), -1);
        Due.same("bytes above 127 are no tokens", x.fault(0) * 100 + x.fault(1), 100);
        x.feed(0x20202020, 0x20200020, 0, 0, 0);
        Due.same("byte 0", x.text(8), -1);
        Due.same("byte 0 is no token", x.fault(0) * 100 + x.fault(1), 106);
    }

    private static void reading() {
        MarkGuards x = Due.of(THREE);
        Due.same("count(0)", x.count(0), 3);
        x.go(5);
        x.jump(1);
        x.check(0);
        x.sign(1, 99);
        x.note(0, 0, true);
        x.known(0);
        x.keep();
        Due.feed(x, THREE);
        Due.same("text(-1)", x.text(-1), -2);
        Due.same("text of more than there is", x.text(121), -2);
        Due.same("a text reads its LINES", x.text(THREE.length()), 9);
        int[] due = {3, 4, 1, 0, 0, 0, 1, 0, 0, 0, 0, 0, 0, 0, 0};
        for (int what = 0; what < due.length; what++) {
            Due.same("count(" + what + ") behind text", x.count(what), due[what]);
        }
        Due.same("no IMAGE behind text", x.back(), -1);
        Due.same("nothing to undo behind text", x.undo(), -1);
        Due.same("SIGN as told", x.block(1, 0), 2);
        Due.same("nothing VISITED", x.block(1, 3), 0);
        Due.same("no CHECK in a", x.block(0, 2), 0);
        x.note(0, 0, false);
        Due.same("all KNOWN behind text", x.count(13), 1);
        Due.feed(x, THREE);
        Due.same("the first n bytes alone", x.text(12), 1);
        Due.same("one BLOCK", x.count(0), 1);
        Due.same("an empty text", x.text(0), 0);
        Due.same("no BLOCKS", x.count(5), -2);
        Due.same("no MARK", x.count(6), 0);
    }

    /** Nothing of a text that was read ahead is left in the next one. */
    private static void readingAnew() {
        MarkGuards x = Due.of("block p 1 1;block q 2 2;edge p q;edge q p;edge p p;limit 1;jump 75;seed 4;base p p;"
            + "check p;law out 5;law turn 0;law land 1;");
        x.go(20);
        x.jump(0);
        Due.same("THREE behind it", Due.read(x, THREE.substring(0, THREE.indexOf("limit"))), 8);
        Due.same("limit is 10 again", x.cover(2), 6);
        Due.same("jump is 0 again", x.holds(1, 0), 1);
        Due.same("BASE", x.base(0), 2);
        Due.same("EDGES to a", x.block(0, 5), 1);
        Due.same("no laws", x.law(0, 0) == x.law(1, 0) && x.law(1, 0) == x.law(2, 0), true);
        Due.same("KNOTS", x.count(3), 0);
        x.go(4);
        Due.same("TOTAL by WORK", x.count(8), 30);
        for (int i = 0; i < 40; i++) {
            Due.same("a law again and again", Due.read(x, "block a 1 7;law out " + sum(20) + "*work;"), 2);
            Due.same("its value", x.law(0, 0), 19 + 7);
            Due.read(x, "law out " + sum(30) + ";law;");
        }
        Due.read(x, THREE);
        x.go(2);
        Due.same("ADJUST", x.count(7), 3);
        Due.feed(x, THREE);
        Due.same("text(0) of a TAPE that isn't empty", x.text(0), 0);
        Due.same("without BLOCKS: ADJUST", x.count(7), 0);
        Due.same("without BLOCKS: MARK", x.count(6), 0);
        Due.same("the TAPE is empty", x.text(1), -2);
    }

    private static void stayingWithFault() {
        MarkGuards x = Due.of(THREE);
        x.go(4);
        x.jump(1);
        x.note(0, 0, true);
        x.keep();
        Due.same("faulty", Due.read(x, "block p 1 1;block q 256 1;"), -1);
        Due.same("STEP stays", x.count(4), 4);
        Due.same("TOTAL stays", x.count(8), 37);
        Due.same("NOTES stay", x.count(12), 1);
        Due.same("undo stays", x.count(14), 1);
        Due.same("BLOCKS stay", x.count(0), 3);
        Due.same("names stay", x.named(16 << 25), -1);
        Due.same("fault(0)", x.fault(0), 2);
        Due.same("fault(1)", x.fault(1), 20);
        Due.same("fault(2)", x.fault(2), -1);
        Due.same("fault(-1)", x.fault(-1), -1);
        Due.same("text -2", x.text(3), -2);
        Due.same("fault(0) behind -2", x.fault(0), 2);
        Due.same("the IMAGE stays", x.back(), 4);
        Due.same("right", Due.read(x, "limit 1;"), 1);
        Due.same("fault(0) of a right one", x.fault(0), 0);
        Due.same("fault(1) of a right one", x.fault(1), -1);
    }

    private static void tokens() {
        Due.faulty(";", 1, 0);
        Due.faulty("x", 1, 0);
        Due.faulty("  out 1;", 1, 2);
        Due.faulty("blocka 1 1;", 1, 0);
        Due.faulty("block", 1, 5);
        Due.faulty("block a", 1, 7);
        Due.faulty("block a 1", 1, 9);
        Due.faulty("block a 1 5", 1, 11);
        Due.faulty("block a 1 5  ", 1, 13);
        Due.faulty("block a 1 5 6;", 1, 12);
        Due.faulty("block 1 1 5;", 1, 6);
        Due.faulty("block block 1 5;", 1, 6);
        Due.faulty("block step 1 5;", 1, 6);
        Due.faulty("block abcdefg 1 5;", 1, 6);
        Due.faulty("block A 1 5;", 1, 6);
        Due.faulty("block a -1 5;", 1, 8);
        Due.faulty("limit\t3;", 1, 5);
        Due.faulty("limit a;", 1, 6);
        Due.faulty("jump ;", 1, 5);
        Due.faulty("block a 1 1;edge a;", 1, 18);
        Due.faulty("block a 1 1;edge a 1;", 1, 19);
        Due.faulty("block a 1 1;check out;", 1, 18);
        Due.faulty("law edge 1;", 1, 4);
        Due.faulty("law outs 1;", 1, 4);
        Due.same("six letters, blanks of both kinds", Due.of("block abcdef\n1 5;\n \nblock lawa 1 1;").count(0), 2);
        Due.same("no blanks where none must be", Due.of("block a1 5;limit3;jump4;").count(0), 1);
        Due.same("zeros ahead", Due.of("block a 00000000000255 0099;").block(0, 0), 255);
        Due.same("a blank parts two numbers", Due.of("block a 2 55;").block(0, 1), 55);
    }

    private static void tooMuch() {
        Due.faulty("block a 256 5;", 2, 8);
        Due.faulty("block a 255 100;", 2, 12);
        Due.faulty("block a 99999999999999999999999 1;", 2, 8);
        Due.faulty("limit 0;", 2, 6);
        Due.faulty("limit 41;", 2, 6);
        Due.faulty("jump 101;", 2, 5);
        Due.faulty("seed 100000;", 2, 5);
        Due.same("the most of each", Due.of("limit 40;jump 100;seed 99999;block a 255 99;").count(0), 1);
        Due.same("the least of each", Due.of("limit 1;jump 0;seed 0;block a 0 0;").count(0), 1);
        StringBuilder text = new StringBuilder();
        for (int b = 0; b < 8; b++) {
            text.append("block ").append((char) ('a' + b)).append(" 1 1;");
        }
        Due.same("eight BLOCKS", Due.of(text.toString()).count(0), 8);
        Due.faulty(text + "block a 1 1;", 2, 96);
        Due.faulty(text + "block;", 2, 96);
        String from = text + "edge a a;edge a b;edge a c;";
        Due.faulty(from + "edge a d;", 2, 128);
        Due.faulty(from + "edge a a;", 2, 128);
        Due.faulty(from + "edge a z;", 2, 128);
        Due.faulty(from + "edge a;", 2, 128);
        for (int e = 0; e < 16; e++) {
            text.append("edge ").append((char) ('a' + e / 2)).append(' ').append((char) ('a' + e % 2)).append(';');
        }
        Due.same("sixteen EDGES", Due.of(text.toString()).count(1), 16);
        Due.faulty(text + "edge a c;", 2, 240);
        Due.faulty(text + "edge;", 2, 240);
        Due.faulty(text + "edge", 2, 240);
    }

    private static void toldAlready() {
        Due.faulty("block a 1 1;block a 1 1;", 3, 18);
        Due.faulty("block a 1 1;block a;", 3, 18);
        Due.faulty("block a 1 1;edge a a;edge a a;", 3, 28);
        Due.faulty("block a 1 1;check a;check a;", 3, 26);
        Due.faulty("block a 1 1;edge a a;base a a;base a a;", 3, 35);
        Due.faulty("block a 1 1;edge a a;base a a;base a z;", 3, 35);
        Due.faulty("limit 1;limit 2;", 3, 8);
        Due.faulty("jump 1;jump;", 3, 7);
        Due.faulty("seed 0;seed", 3, 7);
        Due.faulty("law out 1;law out 2;", 3, 14);
        Due.faulty("law turn 1;law out 2;law turn", 3, 25);
        Due.faulty("law land 1;law land 1;", 3, 15);
    }

    private static void notTold() {
        Due.faulty("edge a a;", 4, 5);
        Due.faulty("block a 1 1;edge a b;block b 1 1;", 4, 19);
        Due.faulty("check a;", 4, 6);
        Due.faulty("block a 1 1;check aa;", 4, 18);
        Due.faulty("base a a;", 4, 5);
        Due.faulty("block a 1 1;base a b;", 4, 19);
        Due.faulty("block a 1 1;base a a;edge a a;", 5, 19);
        Due.faulty("block a 1 1;block b 1 1;edge a b;base a b;", 5, 40);
        Due.same("a base told", Due.of("block a 1 1;block b 1 1;edge b b;edge a b;base b a;").base(1), 0);
    }

    private static void formulas() {
        Due.faulty("law out;", 1, 7);
        Due.faulty("law out 1 2;", 1, 10);
        Due.faulty("law out 1", 1, 9);
        Due.faulty("law out 1+;", 1, 10);
        Due.faulty("law out -1;", 1, 8);
        Due.faulty("law out (1;", 1, 10);
        Due.faulty("law out 1);", 1, 9);
        Due.faulty("law out ();", 1, 9);
        Due.faulty("law out a;", 1, 8);
        Due.faulty("law out 1<2<3;", 1, 11);
        Due.faulty("law out 1<2+3*4=5;", 1, 15);
        Due.faulty("law out 1+not 2;", 1, 10);
        Due.faulty("law out 1<not 2;", 1, 10);
        Due.faulty("law out not;", 1, 11);
        Due.faulty("law out 1 not 2;", 1, 10);
        Due.faulty("law out and 1;", 1, 8);
        Due.faulty("law out 1=<2;", 1, 10);
        Due.faulty("law out 1> =2;", 1, 11);
        Due.faulty("law out 1><2;", 1, 10);
        Due.faulty("law out 1< >2;", 1, 11);
        Due.faulty("law out 1>>2;", 1, 10);
        Due.faulty("law out 10000;", 2, 8);
        Due.faulty("law out 1+10000 0;", 2, 10);
        Due.faulty("law out ((((((((1+2)*(((3))))))))));", 2, 22);
        Due.faulty("law out (((1+2)*(3)))(;", 1, 21);
        Due.faulty("law out (((((((((1)))))))));", 2, 16);
        Due.faulty("law out (1)+((((((((1))))))))+(((((((((1)))))))));", 2, 38);
        Due.same("eight open", Due.of("law out (((((((( 9999 ))))))))*((((((((1))))))));").count(3), 3);
        Due.same("of each E anew", Due.of("law out ((((((((1))))))));law turn ((((((((1))))))));").count(3), 2);
        Due.same("not behind not and (", Due.of("law out not not (not 1) and not 2 or not 3;").count(3), 10);
        MarkGuards x = new MarkGuards();
        Due.feed(x, "law out 1<=2;");
        Due.same("what is behind n doesn't count", x.text(10), -1);
        Due.same("its place is the length", x.fault(1), 10);
        Due.feed(x, "law out 12345;");
        Due.same("nor do digits behind n", x.text(12), -1);
        Due.same("a sign is missing", x.fault(0) * 100 + x.fault(1), 112);
        Due.feed(x, "block ab 1 1;");
        Due.same("nor do letters", x.text(7), -1);
        Due.same("a number is missing", x.fault(0) * 100 + x.fault(1), 107);
        Due.same("each comparison", Due.of("law out (1<2)+(1<=2)+(1=2)+(1<>2)+(1>=2)+(1>2);").count(3), 23);
    }

    private static String sum(int numbers) {
        StringBuilder text = new StringBuilder("1");
        for (int i = 1; i < numbers; i++) {
            text.append("+1");
        }
        return text.toString();
    }

    private static void knots() {
        Due.same("63 KNOTS", Due.of("law out " + sum(32) + ";").count(3), 63);
        Due.same("64 KNOTS", Due.of("law out not " + sum(32) + ";").count(3), 64);
        Due.faulty("law out " + sum(33) + ";", 2, 8 + 64);
        Due.faulty("law out not " + sum(33) + ";", 2, 12 + 63);
        Due.faulty("law out not " + sum(32) + ";law turn 1;", 2, 12 + 63 + 10);
        Due.faulty("law out not " + sum(32) + ";law turn (not 1);", 2, 12 + 63 + 11);
        Due.faulty("law out not " + sum(32) + ";law turn (+1);", 1, 12 + 63 + 11);
        Due.same("of all E", Due.of("law land " + sum(16) + ";law out work;law turn " + sum(16) + ";").count(3), 63);
    }

    private static void names() {
        MarkGuards x = Due.of("block a 1 1;block ab 1 1;block zzzzzz 1 1;block abc 1 1;");
        Due.same("named a", x.named(1 << 25), 0);
        Due.same("named ab", x.named(1 << 25 | 2 << 20), 1);
        Due.same("named zzzzzz", x.named(26 << 25 | 26 << 20 | 26 << 15 | 26 << 10 | 26 << 5 | 26), 2);
        Due.same("named abc", x.named(1 << 25 | 2 << 20 | 3 << 15), 3);
        Due.same("named b", x.named(2 << 25), -1);
        Due.same("named 1", x.named(1), -1);
        Due.same("named 0", x.named(0), -1);
        Due.same("named -1", x.named(-1), -1);
        Due.same("named with higher bits", x.named(1 << 30 | 1 << 25), -1);
        Due.same("named without BLOCKS", new MarkGuards().named(0), -1);
    }
}
