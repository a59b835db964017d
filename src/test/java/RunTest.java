/** Promises 11 to 16, 37 and 38: jump, check, sign, go, ahead, comes, chance, tried; what a STEP does. */
public final class RunTest {
    private static final String THREE = "block a 1 5;block b 2 7;block c 4 9;edge a b;edge a c;edge b c;edge c a;"
        + "check c;";
    private static final String DRAWN = "block p 1 1;block q 2 2;block r 3 4;edge p q;edge q p;seed 1;";

    public static void main(String[] args) {
        jumping();
        checking();
        signing();
        going();
        goingWithoutEnd();
        numbers();
        landing();
        turning();
        output();
        bounds();
        joinsAndAlarms();
        lookingAhead();
        coming();
        chances();
        trying();
        Due.finish();
    }

    private static void at(String when, MarkGuards x, int place, int mark, int total) {
        Due.same(when + ", BLOCK", x.count(5), place);
        Due.same(when + ", MARK", x.count(6), mark);
        Due.same(when + ", TOTAL", x.count(8), total);
    }

    private static void jumping() {
        MarkGuards x = Due.of(THREE);
        Due.same("jump(3)", x.jump(3), false);
        Due.same("jump(-1)", x.jump(-1), false);
        Due.same("no JUMP came of it", x.count(10) + x.count(14), 0);
        Due.same("jump(1) looks right", x.jump(1), true);
        at("jump(1)", x, 1, 2, 7);
        Due.same("a VISIT", x.block(1, 3), 1);
        Due.same("no STEP", x.count(4), 0);
        Due.same("jump(1) again, no CHECK", x.jump(1), true);
        at("jump(1) again", x, 1, 1, 14);
        Due.same("jump(2), a CHECK", x.jump(2), true);
        at("jump(2), MARK is SIGN by chance", x, 2, 4, 23);
        Due.same("jump(2) again", x.jump(2), false);
        at("an ALARM", x, 0, 1, 32);
        Due.same("an ALARM more", x.count(9), 1);
        Due.same("four JUMPS", x.count(10), 4);
        Due.same("the ENTRY isn't VISITED by that", x.block(0, 3), 0);
        Due.same("jump without BLOCKS", new MarkGuards().jump(0), false);
        MarkGuards y = Due.of(THREE + "law out visits*100+step*10+mark;");
        y.go(1);
        y.jump(0);
        at("E of out at a jump", y, 0, 7, 102 + 117);
    }

    private static void checking() {
        MarkGuards x = Due.of(THREE);
        Due.same("check(2) goes", x.check(2), 0);
        Due.same("check(2) comes", x.check(2), 1);
        Due.same("check(0) comes", x.check(0), 1);
        Due.same("CHECKS now", x.count(2), 2);
        Due.same("check(3)", x.check(3), -1);
        Due.same("check(-1)", x.check(-1), -1);
        Due.same("nothing came of these", x.count(14), 3);
        x.jump(1);
        Due.same("a CHECK that came alarms", x.jump(0), false);
        x.check(0);
        x.jump(1);
        Due.same("one that went doesn't", x.jump(0), true);
        Due.same("check without BLOCKS", new MarkGuards().check(0), -1);
    }

    private static void signing() {
        MarkGuards x = Due.of(THREE);
        Due.same("sign(0, 255)", x.sign(0, 255), 1);
        Due.same("sign(0, 0)", x.sign(0, 0), 255);
        Due.same("sign(0, 256)", x.sign(0, 256), -1);
        Due.same("sign(0, -1)", x.sign(0, -1), -1);
        Due.same("sign(3, 1)", x.sign(3, 1), -1);
        Due.same("sign(-1, 1)", x.sign(-1, 1), -1);
        Due.same("two to undo", x.count(14), 2);
        Due.same("MARK now stays", x.count(6), 1);
        Due.same("MARK is wrong now", x.ahead(2, 3), 1);
        x.sign(1, 9);
        x.go(1);
        at("DIFF by the new SIGNS", x, 1, 1 ^ 0 ^ 9, 7);
        x.go(1);
        at("an ALARM: MARK is the new SIGN of the ENTRY", x, 0, 0, 16);
    }

    private static void going() {
        MarkGuards x = Due.of(THREE);
        Due.same("go(0)", x.go(0), 0);
        Due.same("go(-1)", x.go(-1), -1);
        Due.same("go(201)", x.go(201), -1);
        at("at first", x, 0, 1, 0);
        Due.same("go(1)", x.go(1), 1);
        at("STEP 1: a's first EDGE, a isn't VISITED", x, 1, 2, 7);
        Due.same("ADJUST of a -> b", x.count(7), 0);
        Due.same("go(1)", x.go(1), 2);
        at("STEP 2", x, 2, 4, 16);
        Due.same("ADJUST of b -> c", x.count(7), 3);
        Due.same("go(2)", x.go(2), 4);
        at("STEP 4: a's second EDGE, VISITED once", x, 2, 4, 30);
        Due.same("ADJUST of a -> c", x.count(7), 0);
        Due.same("VISITS of a", x.block(0, 3), 1);
        Due.same("VISITS of c", x.block(2, 3), 2);
        Due.same("no JUMPS, ALARMS, ENDS", x.count(9) + x.count(10) + x.count(11), 0);
        Due.same("go(200)", x.go(200), 204);
        MarkGuards none = new MarkGuards();
        Due.same("STEPS without BLOCKS", none.go(7), 7);
        Due.same("nothing comes of them", none.count(11) + none.count(8), 0);
        MarkGuards ends = Due.of("block a 3 5;block b 6 7;edge a b;");
        ends.go(1);
        at("ahead of the END", ends, 1, 6, 7);
        Due.same("no END yet", ends.count(11), 0);
        ends.go(1);
        at("the END", ends, 0, 3, 7);
        Due.same("an END", ends.count(11), 1);
        Due.same("it isn't ENTERING", ends.block(0, 3), 0);
        Due.same("no ALARM", ends.count(9), 0);
        MarkGuards lone = Due.of("block a 3 5;jump 100;");
        lone.go(9);
        Due.same("ENDS without EDGES", lone.count(11), 9);
        Due.same("an END is no JUMP", lone.count(10), 0);
    }

    private static void goingWithoutEnd() {
        MarkGuards x = Due.of(THREE);
        for (int i = 1; i <= 49; i++) {
            x.go(200);
        }
        Due.same("STEP 9800", x.count(4), 9800);
        Due.same("go(0) at 9800", x.go(0), 9800);
        Due.same("go(1) at 9800", x.go(1), -1);
        Due.same("go(200) at 9800", x.go(200), -1);
        Due.same("none goes by", x.count(4), 9800);
        Due.same("ahead of 9800", x.ahead(200, 2), x.tried(0, 0, 200));
        nearTheLastStep();
    }

    /** What doesn't all fit in ahead of 9800 doesn't go by at all, and so leaves what can be undone. */
    private static void nearTheLastStep() {
        MarkGuards x = Due.of(THREE);
        for (int i = 1; i <= 48; i++) {
            x.go(200);
        }
        x.go(60);
        x.check(0);
        int place = x.count(5);
        int total = x.count(8);
        Due.same("go(141) at 9660", x.go(141), -1);
        Due.same("no STEP of these", x.count(4), 9660);
        Due.same("one stands where one stood", x.count(5), place);
        Due.same("no TOTAL more", x.count(8), total);
        Due.same("it can still be undone", x.undo(), 0);
        Due.same("go(139) at 9660", x.go(139), 9799);
        Due.same("go(2) at 9799", x.go(2), -1);
        Due.same("go(1) at 9799", x.go(1), 9800);
        Due.same("go(1) at 9800", x.go(1), -1);
    }

    /** Numbers from seed 1 on: 16838, 5758, 10113, 17515, 31051, 5627. */
    private static void numbers() {
        MarkGuards x = Due.of(DRAWN + "jump 39;");
        x.go(1);
        at("38 is below 39: a JUMP to 5758 modulo 3, where the EDGE leads, too", x, 1, 2, 2);
        Due.same("a JUMP", x.count(10), 1);
        x.go(1);
        at("13 is below 39: a JUMP to 17515 modulo 3", x, 1, 2 ^ 3, 4);
        Due.same("two JUMPS", x.count(10), 2);
        x.go(1);
        at("51 isn't", x, 0, 2 ^ 3 ^ 3, 5);
        Due.same("two JUMPS still", x.count(10), 2);
        MarkGuards y = Due.of(DRAWN + "jump 38;");
        y.go(2);
        Due.same("38, 58 are no JUMPS, and draw no BLOCK", y.count(10) * 10 + y.count(5), 0);
        y.go(1);
        Due.same("13 is one, to 17515 modulo 3", y.count(10) * 10 + y.count(5), 11);
        MarkGuards all = Due.of(DRAWN + "jump 100;");
        all.go(1);
        at("no number for a JUMP that is sure: to 16838 modulo 3", all, 2, 1 ^ 3, 4);
        all.go(1);
        at("the END takes no number", all, 0, 1, 4);
        all.go(1);
        Due.same("to 5758 modulo 3", all.count(5), 1);
        MarkGuards none = Due.of(DRAWN + "jump 0;");
        none.go(100);
        Due.same("jump 0", none.count(10), 0);
    }

    private static void landing() {
        MarkGuards x = Due.of(DRAWN + "jump 100;law land 0-1;");
        x.go(1);
        Due.same("below 0: the remainder is 0 at least", x.count(5), 2);
        MarkGuards y = Due.of(DRAWN + "jump 100;law land place+mark*10+visits*100+ways*1000;");
        y.go(1);
        Due.same("of where one stands: 1010 modulo 3", y.count(5), 2);
        MarkGuards e = Due.of(DRAWN + "jump 100;law land 1/place;");
        e.go(1);
        Due.same("an ERROR: 16838 modulo 3", e.count(5), 2);
        MarkGuards l = Due.of(DRAWN + "jump 39;law land 2;");
        l.go(1);
        Due.same("a law draws no BLOCK", l.count(5), 2);
        l.go(2);
        Due.same("58 is no JUMP", l.count(10) * 10 + l.count(5), 11);
    }

    private static void turning() {
        String three = "block a 1 1;block b 1 2;block c 1 3;edge a b;edge a c;edge a a;";
        MarkGuards x = Due.of(three + "law turn 0-1;");
        x.go(1);
        Due.same("below 0: the last of three", x.count(5), 0);
        MarkGuards y = Due.of(three + "law turn 1/visits;");
        y.go(1);
        Due.same("an ERROR: VISITS there", y.count(5), 1);
        MarkGuards z = Due.of(three + "law turn 5;");
        z.go(1);
        Due.same("5 modulo 3", z.count(5), 0);
        MarkGuards s = Due.of(three + "law turn step+2;");
        s.go(2);
        Due.same("step is the STEP: 2, then 3 modulo 3", s.count(5), 1);
        MarkGuards v = Due.of("block a 1 1;block b 1 2;edge a a;edge a b;");
        v.go(2);
        Due.same("without: VISITS there", v.count(5), 1);
    }

    private static void output() {
        MarkGuards x = Due.of("block a 1 50;edge a a;law out 0-5;");
        x.go(3);
        Due.same("below 0", x.count(8), 0);
        MarkGuards y = Due.of("block a 1 50;edge a a;law out 1000;");
        y.go(3);
        Due.same("above 999", y.count(8), 2997);
        MarkGuards z = Due.of("block a 1 50;edge a a;law out 10/(visits-2);");
        z.go(3);
        Due.same("visits with this one, WORK with an ERROR", z.count(8), 0 + 50 + 10);
        MarkGuards w = Due.of("block a 1 50;edge a a;");
        w.go(3);
        Due.same("WORK without", w.count(8), 150);
        MarkGuards t = Due.of("block a 1 50;block b 6 3;edge a b;edge b a;law out total+mark+place*10+step*100;");
        t.go(2);
        Due.same("of the BLOCK one ENTERS, TOTAL ahead of it", t.count(8), 16 + 16 + 1 + 100);
    }

    private static void bounds() {
        MarkGuards x = Due.of("block a 1 1;edge a a;law out 999;");
        for (int i = 0; i < 5; i++) {
            x.go(200);
        }
        Due.same("TOTAL behind 1000 STEPS", x.count(8), 999000);
        x.go(1);
        Due.same("TOTAL is 999999 at most", x.count(8), 999999);
        x.go(1);
        Due.same("TOTAL stays", x.count(8), 999999);
        Due.same("TOTAL more", x.ahead(5, 2), 0);
        for (int i = 0; i < 43; i++) {
            x.go(200);
        }
        x.go(198);
        Due.same("VISITS", x.block(0, 3), 9800);
        for (int i = 0; i < 199; i++) {
            x.jump(0);
        }
        Due.same("VISITS are 9999", x.block(0, 3), 9999);
        x.jump(0);
        Due.same("VISITS are 9999 at most", x.block(0, 3), 9999);
    }

    private static void joinsAndAlarms() {
        MarkGuards x = Due.of("block a 1 5;block b 2 7;block c 4 9;edge a b;edge b c;edge a c;edge c a;check c;check a;"
            + "law turn visits;");
        x.go(2);
        at("c's BASE is b", x, 2, 4, 16);
        Due.same("b leads to its JOIN as its BASE", x.count(7), 0);
        x.go(2);
        at("a -> c is adjusted", x, 2, 4, 30);
        Due.same("ADJUST", x.count(7), 3);
        Due.same("ADJUST as now: no JOIN, so MARK is wrong", x.jump(0), true);
        x.go(1);
        x.go(1);
        Due.same("all right so far", x.count(9), 0);
        x.jump(1);
        x.jump(1);
        Due.same("no CHECK in b", x.count(9), 0);
        x.go(1);
        Due.same("the CHECK in c finds it", x.count(9), 1);
        at("one stands in the ENTRY", x, 0, 1, x.count(8));
        Due.same("ADJUST is 0", x.count(7), 0);
    }

    private static void lookingAhead() {
        MarkGuards x = Due.of(THREE + "jump 50;");
        Due.same("ahead(1, 0): jump 50 is a JUMP, to the last BLOCK", x.ahead(1, 0), 2);
        Due.same("ahead(1, 1)", x.ahead(1, 1), 4);
        Due.same("ahead(1, 2)", x.ahead(1, 2), 9);
        Due.same("ahead(1, 3)", x.ahead(1, 3), 0);
        Due.same("ahead(2, 3): c to c", x.ahead(2, 3), 1);
        Due.same("ahead(2, 0)", x.ahead(2, 0), 0);
        Due.same("ahead(2, 4)", x.ahead(2, 4), 2);
        Due.same("ahead(2, 2)", x.ahead(2, 2), 18);
        Due.same("ahead(0, 0)", x.ahead(0, 0), 0);
        Due.same("ahead(200, 4)", x.ahead(200, 4), 200);
        for (int what : new int[] {-1, 5}) {
            Due.same("ahead(1, " + what + ")", x.ahead(1, what), -1);
        }
        Due.same("ahead(-1, 0)", x.ahead(-1, 0), -1);
        Due.same("ahead(201, 0)", x.ahead(201, 0), -1);
        Due.same("nothing came of it", x.count(4) + x.count(8) + x.count(10), 0);
        Due.same("jump 49 is none", Due.of(THREE + "jump 49;").ahead(9, 4), 0);
        x.jump(1);
        Due.same("TOTAL more", x.ahead(1, 2), 9);
        Due.same("JUMPS more", x.ahead(1, 4), 1);
        MarkGuards none = new MarkGuards();
        Due.same("ahead(1, 0) without BLOCKS", none.ahead(1, 0), -2);
        Due.same("ahead(1, 1) without BLOCKS", none.ahead(1, 1), 0);
        Due.same("ahead(201, 0) without BLOCKS", none.ahead(201, 0), -1);
        MarkGuards l = Due.of(THREE + "jump 50;law land place+1;");
        Due.same("a law of landing as it goes", l.ahead(2, 0), 2);
    }

    private static void coming() {
        MarkGuards x = Due.of(THREE);
        Due.same("comes(0), now", x.comes(0), 0);
        Due.same("comes(2)", x.comes(2), 2);
        Due.same("comes(3)", x.comes(3), -1);
        Due.same("comes(-1)", x.comes(-1), -1);
        x.go(1);
        Due.same("comes(0) from b", x.comes(0), 2);
        MarkGuards far = Due.of("block a 1 1;block b 1 1;edge a a;edge a b;law turn step>=198;");
        Due.same("in 199 STEPS", far.comes(1), 199);
        MarkGuards farther = Due.of("block a 1 1;block b 1 1;edge a a;edge a b;law turn step>=199;");
        Due.same("not by then", farther.comes(1), -2);
        farther.go(1);
        Due.same("by then", farther.comes(1), 199);
        MarkGuards alarm = Due.of("block a 1 1;block b 2 1;edge a a;edge a b;check b;");
        alarm.sign(0, 5);
        Due.same("the ALARM of STEP 2 keeps one from standing there", alarm.comes(1), 3);
        Due.same("comes(0) without BLOCKS", new MarkGuards().comes(0), -1);
    }

    /** p goes round; a JUMP (of a hundred 50) to q is found by its CHECK. */
    private static int alarmed(long seed, int n) {
        long number = seed;
        int times = 0;
        for (int time = 0; time < 10; time++) {
            boolean alarm = false;
            for (int i = 0; i < n; i++) {
                number = (number * 1103515245L + 12345L) % (1L << 31);
                if (number / 65536 % 100 < 50) {
                    number = (number * 1103515245L + 12345L) % (1L << 31);
                    alarm = alarm || number / 65536 % 2 == 1;
                }
            }
            times += alarm ? 1 : 0;
        }
        return times;
    }

    private static void chances() {
        MarkGuards x = Due.of("block p 5 0;block q 9 0;edge p p;check q;jump 50;seed 77;");
        for (int seed : new int[] {0, 1, 2, 3, 12345, 99999, 100000, 1 << 30, Integer.MAX_VALUE}) {
            for (int n : new int[] {1, 2, 3, 5, 99}) {
                Due.same("chance(" + seed + ", " + n + ")", x.chance(seed, n), alarmed(seed, n));
            }
        }
        Due.same("chance(-1, 1)", x.chance(-1, 1), -1);
        Due.same("chance(1, 0)", x.chance(1, 0), -1);
        Due.same("chance(1, 100)", x.chance(1, 100), -1);
        Due.same("nothing came of it", x.count(4) + x.count(9) + x.count(10), 0);
        MarkGuards y = Due.of("block p 5 0;block q 9 0;edge p p;check q;jump 50;seed 77;");
        x.go(20);
        y.go(20);
        Due.same("nor of the numbers", x.count(10), y.count(10));
        Due.same("ALARMS ahead don't count", x.check(1) == 0 ? x.chance(1, 99) : -5, 0);
        Due.same("chance without BLOCKS", new MarkGuards().chance(1, 1), 0);
    }

    private static void trying() {
        MarkGuards x = Due.of(THREE + "jump 50;");
        Due.same("0 no JUMPS", x.tried(0, 0, 4), 30);
        Due.same("1 no CHECKS", x.tried(1, 0, 4), 36);
        Due.same("2 c has WORK 0", x.tried(2, 2, 4), 0);
        Due.same("2 a has WORK 0", x.tried(2, 0, 4), 36);
        MarkGuards y = Due.of(THREE + "law out work*10+1;");
        Due.same("2 work is 0, too", y.tried(2, 2, 2), 72);
        Due.same("3 each is a JUMP", y.tried(3, 0, 2), 182);
        Due.same("4 the first EDGES", Due.of(THREE).tried(4, 0, 4), 28);
        Due.same("4 in place of turn", Due.of(THREE + "law turn 1;").tried(4, 0, 1), 7);
        Due.same("3 not from a BLOCK without EDGES", Due.of("block a 1 5;law land 0;").tried(3, 0, 9), 0);
        Due.same("3 lands by its law", Due.of(THREE + "law land 1;").tried(3, 0, 3), 21);
        Due.same("3 without: the last BLOCK", Due.of(THREE + "law land 1/0;").tried(3, 0, 1), 9);
        MarkGuards checked = Due.of("block a 1 5;block b 2 7;block c 4 9;edge a b;edge b b;check b;jump 50;law land 1+place/2;");
        checked.sign(0, 8);
        Due.same("with CHECKS", checked.tried(2, 2, 2), 14);
        y.tried(2, 2, 2);
        Due.same("law isn't tried so", y.law(0, 2), 91);
        y.tried(2, 2, 2);
        y.jump(2);
        Due.same("nor is jump", y.count(8), 91);
        for (int what = 0; what < 5; what++) {
            Due.same("tried(" + what + ", 0, 0)", x.tried(what, 0, 0), 0);
            Due.same("tried(" + what + ", 0, -1)", x.tried(what, 0, -1), -1);
            Due.same("tried(" + what + ", 0, 201)", x.tried(what, 0, 201), -1);
            Due.same("tried(" + what + ", 3, 1)", x.tried(what, 3, 1), -1);
            Due.same("tried(" + what + ", -1, 1)", x.tried(what, -1, 1), -1);
        }
        Due.same("tried(-1, 0, 1)", x.tried(-1, 0, 1), -1);
        Due.same("tried(5, 0, 1)", x.tried(5, 0, 1), -1);
        Due.same("tried(1, 1, 1), i is 0", x.tried(1, 1, 1), -1);
        Due.same("nothing came of it", x.count(4) + x.count(8), 0);
        Due.same("CHECKS stay", x.count(2), 1);
        Due.same("tried without BLOCKS", new MarkGuards().tried(2, 0, 1), -1);
        Due.same("tried(3) without BLOCKS", new MarkGuards().tried(3, 0, 1), 0);
    }
}
