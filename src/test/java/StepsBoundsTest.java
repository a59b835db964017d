/** The part marked ==== 2, sentence by sentence: what STEPS do, and the bounds of VISITS, TOTAL, values and numbers. */
public final class StepsBoundsTest {
    private static final String TRILLION = "1000*1000*1000*1000";
    private static final long NO_VALUE = Long.MIN_VALUE;

    public static void main(String[] args) {
        joins();
        bases();
        differences();
        atFirst();
        adjusting();
        entering();
        visits();
        output();
        total();
        alarms();
        ends();
        turning();
        turningByVisits();
        adjustOfTheEdge();
        jumpsByNumbers();
        landing();
        landingByNumbers();
        names();
        values();
        errors();
        numbers();
        asItGoes();
        Due.finish();
    }

    private static MarkGuards gone(String text, int steps) {
        MarkGuards x = Due.of(text);
        x.go(steps);
        return x;
    }

    private static void at(String when, MarkGuards x, int place, int mark, int adjust) {
        Due.same(when + ": BLOCK", x.count(5), place);
        Due.same(when + ": MARK", x.count(6), mark);
        Due.same(when + ": ADJUST", x.count(7), adjust);
    }

    /** The SLIP by b's EDGE has ADJUST 3: it counts where one lands in a JOIN. */
    private static void joins() {
        Due.says("Part 2", "JOIN: a BLOCK (the ENTRY, too) to which two EDGES at least lead.");
        String text = "block a 1 0;block b 2 0;block c 4 0;block d 8 0;edge a c;edge b c;edge c d;";
        Due.same("one EDGE leads to d", Due.of(text).slip(1, 3), 2 ^ 4 ^ 8);
        Due.same("two EDGES", Due.of(text + "edge b d;").slip(1, 3), 2 ^ 4 ^ 8 ^ 3);
        Due.same("three EDGES", Due.of(text + "edge b d;edge a d;").slip(1, 3), 2 ^ 4 ^ 8 ^ 3);
        Due.same("two, one of them its own", Due.of(text + "edge d d;").slip(1, 3), 2 ^ 4 ^ 8 ^ 3);
        Due.same("no EDGE leads to the ENTRY", Due.of(text).slip(1, 0), 2 ^ 1);
        Due.same("one EDGE to the ENTRY", Due.of(text + "edge c a;").slip(1, 0), 2 ^ 4 ^ 1);
        Due.same("two EDGES to the ENTRY", Due.of(text + "edge c a;edge d a;").slip(1, 0), 2 ^ 4 ^ 1 ^ 3);
        Due.same("two to the ENTRY, one of them its own", Due.of(text + "edge a a;edge c a;").slip(1, 0), 2 ^ 1 ^ 1 ^ 3);
    }

    private static void bases() {
        Due.says("Part 2", "BASE of a BLOCK: the one told, else the one from which the first EDGE to it leads, none without.");
        String text = "block a 1 0;block b 2 0;block c 4 0;";
        Due.same("none", Due.of(text).base(0), -2);
        Due.same("none though EDGES lead from it", Due.of(text + "edge c b;").base(2), -2);
        Due.same("the first EDGE's", Due.of(text + "edge c b;edge a b;edge b b;").base(1), 2);
        Due.same("the one told", Due.of(text + "edge c b;edge a b;edge b b;base b b;").base(1), 1);
        Due.same("the one told, EDGES behind it", Due.of(text + "edge c b;base b c;edge a b;").base(1), 2);
    }

    private static void differences() {
        Due.says("Part 2", "DIFF of a BLOCK: SIGN of its BASE and its own, their unlike bits (its own SIGN without BASE).");
        MarkGuards x = Due.of("block a 255 0;block b 0 0;block c 170 0;edge a b;edge b c;edge c c;");
        Due.same("without BASE", x.diff(0), 255);
        Due.same("all bits unlike", x.diff(1), 255);
        Due.same("by SIGN 0", x.diff(2), 170);
        Due.same("no bit unlike", Due.of("block a 77 0;edge a a;").diff(0), 0);
        Due.same("SIGN 0 without BASE", Due.of("block a 0 0;").diff(0), 0);
    }

    private static void atFirst() {
        Due.says("Part 2", "MARK is SIGN of the ENTRY at first, ADJUST 0, one stands in the ENTRY (it isn't VISITED by that).");
        for (int sign : new int[] {0, 1, 255}) {
            MarkGuards x = Due.of("block a " + sign + " 9;block b 7 9;edge b a;edge a a;base a b;");
            at("at first", x, 0, sign, 0);
            Due.same("VISITS of the ENTRY", x.block(0, 3), 0);
            Due.same("no TOTAL by that", x.count(8), 0);
            at("at first, one BLOCK", Due.of("block a " + sign + " 9;"), 0, sign, 0);
        }
    }

    private static void adjusting() {
        Due.says("Part 2", "ADJUST of an EDGE: SIGN of BASE of the BLOCK it leads to and of the one it leads from, "
            + "unlike bits, if it leads to a JOIN; else 0.");
        String text = "block a 255 0;block b 0 0;block c 9 0;edge a c;";
        Due.same("no JOIN", Due.of(text).edge(0, 2), 0);
        Due.same("a JOIN, of its BASE", Due.of(text + "edge b c;").edge(0, 2), 0);
        Due.same("a JOIN, of another one", Due.of(text + "edge b c;").edge(1, 2), 255);
        Due.same("by the BASE told", Due.of(text + "edge b c;base c b;").edge(0, 2), 255);
        Due.same("its own EDGE", Due.of(text + "edge c c;").edge(1, 2), 255 ^ 9);
        Due.same("SIGNS alike", Due.of("block a 3 0;block b 3 0;edge a a;edge b a;").edge(1, 2), 0);
    }

    private static void entering() {
        Due.says("Part 2", "ENTERING a BLOCK: MARK and DIFF of it, and, if it is a JOIN, ADJUST, unlike bits, is MARK;");
        MarkGuards x = Due.of("block a 1 0;block b 2 0;block c 4 0;edge a b;edge b c;edge a c;base c a;law turn 0;");
        x.go(1);
        at("b, no JOIN", x, 1, 1 ^ 1 ^ 2, 0);
        x.go(1);
        at("c, a JOIN", x, 2, 2 ^ 1 ^ 4 ^ 3, 3);
        x.jump(1);
        at("b again, ADJUST doesn't count", x, 1, 4 ^ 3, 3);
        x.jump(2);
        at("c again, ADJUST counts", x, 2, 7 ^ 5 ^ 3, 3);
        x.jump(0);
        at("a without BASE", x, 0, 1 ^ 1, 3);
    }

    private static void visits() {
        Due.says("Part 2", "one VISIT more there (9999 at most);");
        MarkGuards x = Due.of("block a 1 0;block b 1 0;edge a a;");
        x.go(1);
        Due.same("the first VISIT", x.block(0, 3), 1);
        Due.same("none elsewhere", x.block(1, 3), 0);
        x.go(199);
        for (int i = 0; i < 48; i++) {
            x.go(200);
        }
        Due.same("9800 VISITS", x.block(0, 3), 9800);
        for (int i = 0; i < 198; i++) {
            x.jump(0);
        }
        Due.same("9998 VISITS", x.block(0, 3), 9998);
        x.jump(0);
        Due.same("9999 VISITS", x.block(0, 3), 9999);
        x.jump(0);
        Due.same("no VISIT more", x.block(0, 3), 9999);
        x.jump(0);
        Due.same("no VISIT more", x.block(0, 3), 9999);
        Due.same("but a JUMP more", x.count(10), 201);
    }

    private static void output() {
        Due.says("Part 2", "behind that TOTAL is more by E of out (0 .. 999; WORK without, with an ERROR),");
        String text = "block a 1 50;edge a a;";
        Object[][] rows = {{"0-1", 0}, {"0", 0}, {"1", 1}, {"998", 998}, {"999", 999}, {"1000", 999}, {"9999*9999", 999},
            {"0-9999*9999", 0}, {TRILLION, 999}, {"0-" + TRILLION, 0}, {"1/0", 50}, {TRILLION + "+1", 50},
            {"0-" + TRILLION + "-1", 50}, {"work", 50}, {"visits", 1}};
        for (Object[] row : rows) {
            Due.same("law out " + row[0], gone(text + "law out " + row[0] + ";", 1).count(8), (Integer) row[1]);
        }
        Due.same("without", gone(text, 1).count(8), 50);
        Due.same("WORK 0 without", gone("block a 1 0;edge a a;", 1).count(8), 0);
        Due.same("WORK 99 with an ERROR", gone("block a 1 99;edge a a;law out 1/0;", 1).count(8), 99);
        Due.same("visits is worked out behind the VISIT", gone(text + "law out visits*10;", 2).count(8), 30);
    }

    private static void total() {
        Due.says("Part 2", ", 999999 at most;");
        MarkGuards x = Due.of("block a 1 50;edge a a;law out 1+997*(step<1002);");
        for (int i = 0; i < 5; i++) {
            x.go(200);
        }
        x.go(2);
        Due.same("1002 times 998", x.count(8), 999996);
        Due.same("ahead to 999999", x.ahead(3, 2), 3);
        Due.same("no more ahead", x.ahead(4, 2), 3);
        for (int due = 999997; due <= 999999; due++) {
            x.go(1);
            Due.same("one more", x.count(8), due);
        }
        x.go(1);
        Due.same("no more", x.count(8), 999999);
        x.jump(0);
        Due.same("no more by a jump", x.count(8), 999999);
        MarkGuards y = Due.of("block a 1 50;edge a a;law out 998;");
        for (int i = 0; i < 5; i++) {
            y.go(200);
        }
        y.go(2);
        y.go(1);
        Due.same("of 998 more the part that has room", y.count(8), 999999);
    }

    private static void alarms() {
        Due.says("Part 2", "behind that, if it has a CHECK and MARK isn't its SIGN: an ALARM: one stands in the ENTRY, "
            + "MARK SIGN of it, ADJUST 0 (that isn't ENTERING).");
        String text = "block a 1 5;block b 2 7;block c 4 9;edge a b;edge b c;edge a c;base c a;law turn 0;";
        MarkGuards x = gone(text + "check b;check c;", 2);
        at("CHECKS, MARKS right", x, 2, 4, 3);
        Due.same("no ALARM", x.count(9), 0);
        x.sign(0, 16);
        Due.same("MARK is 4, DIFF 16 ^ 2: b alarms", x.jump(1), false);
        at("behind the ALARM", x, 0, 16, 0);
        Due.same("an ALARM", x.count(9), 1);
        Due.same("the VISIT counts", x.block(1, 3), 2);
        Due.same("TOTAL counts", x.count(8), 7 + 9 + 7);
        Due.same("the ENTRY isn't ENTERED", x.block(0, 3), 0);
        MarkGuards y = gone(text, 2);
        y.sign(0, 16);
        Due.same("no CHECK, MARK is wrong", y.jump(1), true);
        at("there one stands", y, 1, 4 ^ 16 ^ 2, 3);
        MarkGuards z = Due.of("block a 1 5;edge a a;check a;");
        z.sign(0, 9);
        z.go(1);
        at("an ALARM in the ENTRY", z, 0, 9, 0);
        Due.same("one ALARM", z.count(9), 1);
        Due.same("one VISIT", z.block(0, 3), 1);
        z.go(1);
        Due.same("MARK is right now", z.count(9), 1);
    }

    private static void ends() {
        Due.says("Part 2", "A STEP (without BLOCKS nothing comes of it): if no EDGE leads from where one stands, it is the "
            + "END: one stands in the ENTRY likewise (no ALARM, no number).");
        MarkGuards none = gone("law out 5;law turn 1;law land 1;jump 100;", 200);
        Due.same("the STEP", none.count(4), 200);
        for (int what : new int[] {6, 7, 8, 9, 10, 11}) {
            Due.same("without BLOCKS count(" + what + ")", none.count(what), 0);
        }
        MarkGuards x = Due.of("block a 1 5;block b 2 7;block c 4 9;edge a c;edge b c;check a;check b;check c;jump 100;law land 2;");
        x.go(1);
        at("c has no EDGES", x, 2, 1 ^ 1 ^ 4 ^ 0, 0);
        x.sign(0, 77);
        x.sign(2, 99);
        x.go(1);
        at("the END", x, 0, 77, 0);
        Due.same("an END", x.count(11), 1);
        Due.same("no ALARM", x.count(9), 0);
        Due.same("no VISIT of the ENTRY", x.block(0, 3), 0);
        Due.same("no TOTAL by it", x.count(8), 9);
        Due.same("no JUMP by it", x.count(10), 1);
        Due.same("ENDS in the ENTRY, each STEP one", gone("block a 1 5;jump 100;", 200).count(11), 200);
        for (int seed = 0; seed < 20; seed++) {
            noNumberOfEnds(seed);
        }
    }

    /** p to q; from q it is the END, so only every other STEP takes numbers, unless a JUMP leads to p. */
    private static void noNumberOfEnds(int seed) {
        MarkGuards x = Due.of("block p 1 1;block q 2 2;edge p q;jump 50;seed " + seed + ";");
        Numbers numbers = new Numbers(seed);
        int place = 0;
        for (int i = 0; i < 20; i++) {
            place = place == 1 ? 0 : numbers.next() % 100 < 50 ? numbers.next() % 2 : 1;
            x.go(1);
            Due.same("the BLOCK of seed " + seed + ", STEP " + i, x.count(5), place);
        }
    }

    private static void turning() {
        Due.says("Part 2", "Else an EDGE is taken: of those from there that one by E of turn (its remainder by how many "
            + "there are, 0 at least;");
        String one = "block a 1 1;block b 1 1;block c 1 1;edge a b;";
        String two = "block a 1 1;block b 1 1;block c 1 1;edge a a;edge a b;";
        String three = two + "edge a c;";
        for (int value = -7; value <= 7; value++) {
            String law = "law turn " + (value < 0 ? "0-" + -value : "" + value) + ";";
            Due.same(law + " of one", gone(one + law, 1).count(5), 1);
            Due.same(law + " of two", gone(two + law, 1).count(5), Math.floorMod(value, 2));
            Due.same(law + " of three", gone(three + law, 1).count(5), Math.floorMod(value, 3));
        }
        Due.same("10 to the 12 of three", gone(three + "law turn " + TRILLION + ";", 1).count(5), 1);
        Due.same("that below 0 of three", gone(three + "law turn 0-" + TRILLION + ";", 1).count(5), 2);
        Due.same("above 31 bits: 3000000001 of three", gone(three + "law turn 3000*1000*1000+1;", 1).count(5), 1);
    }

    private static void turningByVisits() {
        Due.says("Part 2", "VISITS there without, with an ERROR);");
        String three = "block a 1 1;block b 1 1;block c 1 1;edge a a;edge a b;edge a c;edge b a;edge c a;";
        for (String law : new String[] {"", "law turn 1/0;", "law turn " + TRILLION + "+1;"}) {
            MarkGuards x = Due.of(three + law);
            // VISITS of a ahead of each STEP from it: 0, 1, 2, 3, 4, 5
            int[] due = {0, 1, 0, 2, 0, 0, 1, 0, 2};
            for (int i = 0; i < due.length; i++) {
                x.go(1);
                Due.same(law + " STEP " + i, x.count(5), due[i]);
            }
        }
        MarkGuards two = Due.of("block a 1 1;block b 1 1;edge a a;edge a b;edge b b;edge b a;");
        int[] due = {0, 1, 0, 0, 1, 1, 0};
        // VISITS there: a 0, a 1, b 1, a 2, a 3, b 2, b 3
        for (int i = 0; i < due.length; i++) {
            two.go(1);
            Due.same("of where one stands, STEP " + i, two.count(5), due[i]);
        }
    }

    private static void adjustOfTheEdge() {
        Due.says("Part 2", "ADJUST is that of the EDGE;");
        String text = "block a 1 0;block b 2 0;block c 4 0;edge a c;edge b c;base c b;";
        at("by the EDGE", gone(text, 1), 2, 1 ^ 2 ^ 4 ^ 3, 3);
        at("a JUMP astray, into no JOIN", gone(text + "jump 100;law land 0;", 1), 0, 1 ^ 1, 3);
        at("of an EDGE to no JOIN", gone("block a 1 0;block b 2 0;edge a b;", 1), 1, 2, 0);
    }

    private static void jumpsByNumbers() {
        Due.says("Part 2", "if a number modulo 100 (no number, if jump is 0 or 100) is below jump, it is a JUMP:");
        String round = "block a 1 1;edge a a;";
        for (int seed = 0; seed < 300; seed++) {
            int odds = new Numbers(seed).next() % 100;
            if (odds > 0) {
                Due.same("not below, seed " + seed, gone(round + "jump " + odds + ";seed " + seed + ";", 1).count(10), 0);
            }
            if (odds < 99) {
                int more = odds + 1;
                Due.same("below, seed " + seed, gone(round + "jump " + more + ";seed " + seed + ";", 1).count(10), 1);
            }
            Due.same("jump 99, seed " + seed, gone(round + "jump 99;seed " + seed + ";", 1).count(10), odds == 99 ? 0 : 1);
            Due.same("jump 1, seed " + seed, gone(round + "jump 1;seed " + seed + ";", 1).count(10), odds == 0 ? 1 : 0);
        }
        Due.same("jump 0", gone(round + "jump 0;", 200).count(10), 0);
        MarkGuards x = Due.of("block a 1 1;block b 1 1;block c 1 1;edge a a;edge b b;edge c c;jump 100;seed 5;");
        Numbers numbers = new Numbers(5);
        for (int i = 0; i < 50; i++) {
            x.go(1);
            Due.same("jump 100: numbers tell BLOCKS alone", x.count(5), numbers.next() % 3);
        }
        Due.same("jump 100", x.count(10), 50);
    }

    private static void landing() {
        Due.says("Part 2", "one lands in the BLOCK by E of land (its remainder by BLOCKS, 0 at least, so also of one "
            + "below 0, as by turn;");
        String three = "block a 1 1;block b 1 1;block c 1 1;edge a b;jump 100;";
        for (int value = -7; value <= 7; value++) {
            String law = "law land " + (value < 0 ? "0-" + -value : "" + value) + ";";
            Due.same(law + " of three", gone(three + law, 1).count(5), Math.floorMod(value, 3));
            Due.same(law + " of one", gone("block a 1 1;edge a a;jump 100;" + law, 1).count(5), 0);
            Due.same(law + " of four", gone(three + "block d 1 1;" + law, 1).count(5), Math.floorMod(value, 4));
        }
        Due.same("10 to the 12 of three", gone(three + "law land " + TRILLION + ";", 1).count(5), 1);
        Due.same("that below 0 of three", gone(three + "law land 0-" + TRILLION + ";", 1).count(5), 2);
    }

    private static void landingByNumbers() {
        Due.says("Part 2", "without, with an ERROR another number modulo BLOCKS) in place of where the EDGE leads "
            + "(there, too); one ENTERS it. Then it is the next STEP.");
        String three = "block a 1 1;block b 2 2;block c 4 4;edge a b;";
        for (String law : new String[] {"", "law land 1/0;", "law land " + TRILLION + "+1;"}) {
            for (int seed = 0; seed < 40; seed++) {
                MarkGuards x = Due.of(three + "jump 100;seed " + seed + ";" + law);
                int place = new Numbers(seed).next() % 3;
                x.go(1);
                Due.same(law + " the BLOCK", x.count(5), place);
                Due.same("a JUMP, also to where the EDGE leads", x.count(10), 1);
                Due.same("a VISIT", x.block(place, 3), 1);
                Due.same("TOTAL", x.count(8), 1 << place);
                Due.same("the next STEP", x.count(4), 1);
            }
        }
        for (int seed = 0; seed < 40; seed++) {
            Numbers numbers = new Numbers(seed);
            MarkGuards x = gone(three + "jump 50;seed " + seed + ";", 1);
            int place = numbers.next() % 100 < 50 ? numbers.next() % 3 : 1;
            Due.same("another number, seed " + seed, x.count(5), place);
        }
        at("there, too: MARK is right", gone(three + "jump 100;law land 1;", 1), 1, 2, 0);
    }

    private static void names() {
        Due.says("Part 2", "NAMES: work: WORK; visits: how often VISITED; place: the BLOCK's number, of the BLOCK one "
            + "ENTERS (of turn, land where one stands; of out with this VISIT); mark: MARK; ways: how many EDGES from it; "
            + "total: TOTAL; step: the STEP; all as they are by then.");
        String text = "block a 16 50;block b 32 60;block c 3 70;edge a b;edge b c;edge b a;edge c a;edge c b;edge c c;";
        // of out in b, the first STEP: MARK is b's SIGN by then, TOTAL and STEP are 0 still
        Object[][] out = {{"work", 60}, {"visits", 1}, {"place", 1}, {"mark", 32}, {"ways", 2}, {"total", 0}, {"step", 0}};
        for (Object[] row : out) {
            Due.same("out " + row[0], gone(text + "law out " + row[0] + ";", 1).count(8), (Integer) row[1]);
        }
        // of turn and land in b, the second STEP: as things are ahead of ENTERING
        Object[][] there = {{"work", 60}, {"visits", 1}, {"place", 1}, {"mark", 32}, {"ways", 2}, {"total", 60}, {"step", 1}};
        for (Object[] row : there) {
            for (int due = (Integer) row[1] - 1; due <= (Integer) row[1] + 1; due++) {
                int so = due == (Integer) row[1] ? 1 : 0;
                MarkGuards turn = gone(text + "law turn " + row[0] + "=" + due + ";", 2);
                Due.same("turn " + row[0] + "=" + due, turn.count(5), so == 1 ? 0 : 2);
                MarkGuards land = gone(text + "jump 100;law land (step=0)+(step>0)*2*(" + row[0] + "=" + due + ");", 2);
                Due.same("land " + row[0] + "=" + due, land.count(5), so == 1 ? 2 : 0);
            }
        }
        Due.same("ways 0", gone("block a 1 1;block b 1 1;edge a b;law out ways+7;", 1).count(8), 7);
        Due.same("the STEP of out: 0, 1, 2", gone("block a 1 1;edge a a;law out step*10;", 3).count(8), 30);
    }

    private static void value(String formula, long due) {
        MarkGuards x = Due.of("block a 1 5;law out " + formula + ";law turn 1;");
        Due.same("law out " + formula, x.law(0, 0), due);
        Due.same("law turn 1 behind law out " + formula, x.law(1, 0), 1);
    }

    private static void values() {
        Due.says("Part 2", "VALUES are longs; comparisons, and, or, not are 1 or 0 (what isn't 0 is as 1, both sides are "
            + "worked out), / is cut towards 0;");
        value("9999*9999*9", 899820009L);
        value("9999*9999*9999", 999700029999L);
        value("(1<2)+(1<=1)+(1=1)+(1<>2)+(2>=2)+(2>1)", 6);
        value("(1<1)+(2<=1)+(1=2)+(1<>1)+(1>=2)+(1>1)", 0);
        value("(7 and 9)+(7 or 0)+(0 or 7)+(not 0)", 4);
        value("(7 and 0)+(0 and 7)+(0 and 0)+(0 or 0)+(not 7)+(not 1)", 0);
        value("(0-7) and (0-1)", 1);
        value("not (0-1)", 0);
        value("0 or 0-1", 1);
        value("0 and 1/0", NO_VALUE);
        value("1/0 and 0", NO_VALUE);
        value("1 or 1/0", NO_VALUE);
        value("1/0 or 1", NO_VALUE);
        value("0*(1/0)", NO_VALUE);
        value("1<1/0", NO_VALUE);
        value("not (1/0)", NO_VALUE);
        value("7/2", 3);
        value("(0-7)/2", -3);
        value("7/(0-2)", -3);
        value("(0-7)/(0-2)", 3);
        value("1/2", 0);
        value("(0-1)/2", 0);
        value("9999/9999", 1);
        value("9998/9999", 0);
    }

    private static void errors() {
        Due.says("Part 2", "ERROR: / by 0, a value above 10 to the 12 or below 0 by more than that.");
        value("1/0", NO_VALUE);
        value("0/0", NO_VALUE);
        value("0/1", 0);
        value("1/(1-1)", NO_VALUE);
        value("1/(1<1)", NO_VALUE);
        value(TRILLION, 1000000000000L);
        value(TRILLION + "+1", NO_VALUE);
        value(TRILLION + "+1-1", NO_VALUE);
        value(TRILLION + "-1+1", 1000000000000L);
        value("1+" + TRILLION, NO_VALUE);
        value("0-" + TRILLION, -1000000000000L);
        value("0-" + TRILLION + "-1", NO_VALUE);
        value("0-1-" + TRILLION, NO_VALUE);
        value("(0-1)*(" + TRILLION + ")", -1000000000000L);
        value("(0-1000)*1000*1000*1000", -1000000000000L);
        value("(0-1001)*1000*1000*1000", NO_VALUE);
        value("1001*1000*1000*1000", NO_VALUE);
        value("(" + TRILLION + ")*1", 1000000000000L);
        value("(" + TRILLION + ")*2", NO_VALUE);
        value("(" + TRILLION + ")*(" + TRILLION + ")", NO_VALUE);
        value("(0-" + TRILLION + ")*(" + TRILLION + ")", NO_VALUE);
        value("(0-" + TRILLION + ")*(0-" + TRILLION + ")", NO_VALUE);
        value("(" + TRILLION + ")*0", 0);
        value("0*(0-" + TRILLION + ")", 0);
        value("(" + TRILLION + ")/(0-1)", -1000000000000L);
        value("9999*9999*(9999+3)", 99980001L * 10002L);
        value("9999*9999*(9999+4)", NO_VALUE);
    }

    /** A ring of three, of a hundred JUMPS fifty. */
    private static void numbers() {
        Due.says("Part 2", "Numbers are the last one (at first the seed) times 1103515245 and 12345, without what is above "
            + "31 bits, by 65536.");
        Due.same("the first number from 1 on", new Numbers(1).next(), 16838);
        for (int seed : new int[] {0, 1, 2, 99998, 99999}) {
            MarkGuards x = Due.of("block a 1 1;block b 1 1;block c 1 1;edge a b;edge b c;edge c a;jump 50;seed " + seed + ";");
            Numbers numbers = new Numbers(seed);
            int place = 0;
            for (int i = 0; i < 200; i++) {
                place = numbers.next() % 100 < 50 ? numbers.next() % 3 : (place + 1) % 3;
                x.go(1);
                Due.same("seed " + seed + ", STEP " + i, x.count(5), place);
            }
        }
    }

    private static void asItGoes() {
        Due.says("Part 2", "AS IT GOES: without numbers: it is a JUMP, if jump is 50 at least; where a number would tell the "
            + "BLOCK, it is the last BLOCK.");
        String text = "block a 1 1;block b 1 1;block c 1 1;block d 1 1;edge a b;edge b c;edge c a;edge d a;seed 3;";
        int[][] rows = {{0, 1, 0}, {1, 1, 0}, {49, 1, 0}, {50, 3, 1}, {51, 3, 1}, {99, 3, 1}, {100, 3, 1}};
        for (int[] row : rows) {
            MarkGuards x = Due.of(text + "jump " + row[0] + ";");
            Due.same("jump " + row[0] + ": BLOCK", x.ahead(1, 0), row[1]);
            Due.same("jump " + row[0] + ": JUMPS", x.ahead(200, 4), row[2] * 200);
        }
        Due.same("by E of land", Due.of(text + "jump 50;law land 6;").ahead(1, 0), 2);
        Due.same("with an ERROR of it", Due.of(text + "jump 50;law land 6/0;").ahead(1, 0), 3);
        MarkGuards x = Due.of(text + "jump 50;");
        MarkGuards y = Due.of(text + "jump 50;");
        x.ahead(200, 0);
        x.comes(2);
        x.tried(3, 0, 200);
        x.go(200);
        y.go(200);
        Due.same("no numbers are gone by it", x.count(10) * 10 + x.count(5), y.count(10) * 10 + y.count(5));
    }
}
