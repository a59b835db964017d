/** Promises 32 to 42, sentence by sentence: NOTES, chance, what is tried otherwise, undoing, the IMAGE, count. */
public final class Promises32To42Test {
    private static final int MOST = Integer.MAX_VALUE;
    private static final int LEAST = Integer.MIN_VALUE;
    /** Of three BLOCKS; 32 to 34 are 0 to 2, if only five bits of them count. */
    private static final int[] NO_BLOCKS = {-1, 3, 4, 7, 8, 31, 32, 33, 34, 64, 256, MOST, LEAST, LEAST + 1};
    /** Of four EDGES. */
    private static final int[] NO_EDGES = {-1, 4, 5, 15, 16, 32, 33, 256, MOST, LEAST, LEAST + 1};
    private static final String THREE = "block a 1 5;block b 2 7;block c 4 9;edge a b;edge a c;edge b c;edge c a;check c;";
    private static final String EIGHT = "block a 1 1;block b 2 2;block c 3 3;block d 4 4;block e 5 5;block f 6 6;block g 7 7;"
        + "block h 8 8;";
    /** By its EDGE into q MARK is SIGN of p and of q: LOOKS RIGHT, if SIGN of p is 0. */
    private static final String TWO = "block p 3 0;block q 5 0;edge p p;";

    public static void main(String[] args) {
        notes();
        notesRefused();
        strikes();
        known();
        knownRefused();
        signs();
        asking();
        askingRefused();
        chance();
        chanceRefused();
        tried();
        triedRefused();
        undoing();
        keeping();
        goingBack();
        nothingToGoBackTo();
        counting();
        looking();
        Due.finish();
    }

    private static void notes() {
        Due.says("Promise 32", "A NOTE: its number;");
        MarkGuards x = Due.of(TWO);
        for (int i = 0; i < 24; i++) {
            Due.same("the number", x.note(0, 1, false), i);
        }
        Due.same("NOTES", x.count(12), 24);
        Due.same("the last one counts", x.signs(0), 65534);
        MarkGuards y = Due.of(TWO);
        for (int i = 0; i < 23; i++) {
            y.note(0, 1, false);
        }
        Due.same("the twenty-fourth", y.note(0, 1, true), 23);
        Due.same("it counts", y.signs(0), 0);
    }

    private static MarkGuards full() {
        MarkGuards x = Due.of(TWO);
        for (int i = 0; i < 24; i++) {
            x.note(0, 1, true);
        }
        return x;
    }

    private static void notesRefused() {
        Due.says("Promise 32", "NONE: no such SLIP, or there are 24.");
        for (boolean right : new boolean[] {false, true}) {
            Twin.refuses("note(.., 0, " + right + ")", -1, (x, n) -> x.note(n, 0, right), NO_EDGES);
            Twin.refuses("note(0, .., " + right + ")", -1, (x, n) -> x.note(0, n, right), NO_BLOCKS);
            // to where the EDGES lead
            int[] goals = {1, 2, 2, 0};
            Twin.refuses("note to where the EDGE leads", -1, (x, n) -> x.note(n, goals[n], right), 0, 1, 2, 3);
            Due.same("without BLOCKS", new MarkGuards().note(0, 0, right), -1);
            Due.same("without EDGES", Due.of(EIGHT).note(0, 0, right), -1);
            Due.same("of one BLOCK", Due.of("block a 1 1;edge a a;").note(0, 0, right), -1);
            MarkGuards x = full();
            Due.same("a twenty-fifth", x.note(0, 1, right), -1);
            Due.same("24 still", x.count(12), 24);
            Due.same("by 24 still", x.count(13), 24);
            Due.same("nothing came of it", x.signs(0), 1);
        }
        MarkGuards y = full();
        Due.read(y, TWO);
        Due.same("a text has none: room again", y.note(0, 1, true), 0);
    }

    private static void strikes() {
        Due.says("Promise 33", "One that strikes a NOTE: its number;");
        MarkGuards x = Due.of(TWO);
        x.note(0, 1, true);
        for (int i = 1; i < 24; i++) {
            Due.same("the number", x.strike(i - 1), i);
            Due.same("the first is STRUCK, or isn't", x.signs(0), i % 2 == 1 ? 65535 : 1);
        }
        Due.same("NOTES", x.count(12), 24);
        Due.says("Promise 33", "NONE: no such one, or there are 24.");
        Due.same("the first of 24", x.strike(0), -1);
        Due.same("the last of 24", x.strike(23), -1);
        Due.same("none of 24", x.strike(24), -1);
        Due.same("24 still", x.count(12), 24);
        Due.same("nothing came of it", x.signs(0), 65535);
        Due.same("24 notes", full().strike(5), -1);
        Twin.refuses("strike", -1, MarkGuards::strike, -1, 4, 5, 23, 24, 32, MOST, LEAST);
        Due.same("no NOTES", new MarkGuards().strike(0), -1);
        Due.same("no NOTES, below 0", new MarkGuards().strike(-1), -1);
        MarkGuards y = Due.of(TWO);
        y.note(0, 1, true);
        y.known(0);
        Due.same("one that isn't KNOWN is a NOTE, too", y.strike(0), 1);
    }

    private static void known() {
        Due.says("Promise 34", "KNOWN by n from now on (-1: by all, also those to come): true;");
        MarkGuards x = full();
        Due.same("by 0", x.known(0), true);
        Due.same("nothing", x.signs(0) * 100 + x.count(13), 6553500);
        Due.same("by 1", x.known(1), true);
        Due.same("one", x.signs(0) * 100 + x.count(13), 101);
        Due.same("by 24", x.known(24), true);
        Due.same("all", x.count(13), 24);
        MarkGuards y = Due.of(TWO);
        Due.same("by 0 of none", y.known(0), true);
        y.note(0, 1, true);
        Due.same("not those to come", y.signs(0) * 100 + y.count(13), 6553500);
        Due.same("by all", y.known(-1), true);
        Due.same("all", y.signs(0) * 100 + y.count(13), 101);
        y.note(0, 1, false);
        Due.same("also those to come", y.signs(0) * 100 + y.count(13), 2);
        Due.same("by 2, as many as there are", y.known(2), true);
        y.strike(1);
        Due.same("not those to come", y.signs(0) * 100 + y.count(13), 2);
        Due.same("by 3", y.known(3), true);
        Due.same("what strikes, too", y.signs(0) * 100 + y.count(13), 103);
        Due.same("by all of none", new MarkGuards().known(-1), true);
    }

    private static void knownRefused() {
        Due.says("Promise 34", "false: no such n.");
        Twin.refuses("known", 0, (x, n) -> x.known(n) ? 1 : 0, -2, -3, 5, 6, 24, 25, 32, MOST, LEAST);
        Due.same("1 of none", new MarkGuards().known(1), false);
        Due.same("25 of 24", full().known(25), false);
        MarkGuards x = full();
        x.known(1);
        x.known(25);
        x.known(-2);
        Due.same("it stays", x.count(13), 1);
    }

    private static void signs() {
        Due.says("Promise 35", "SIGNS (bits; the others' SIGNS as now); NONE: no such BLOCK.");
        MarkGuards x = Due.of("block a 1 0;block b 15 0;edge a b;edge b a;");
        Due.same("all", x.signs(0), 65535);
        x.note(1, 1, true);
        Due.same("a as b, 15", x.signs(0), 32768);
        x.sign(1, 0);
        Due.same("a as b, 0 now", x.signs(0), 1);
        x.sign(1, 16);
        Due.same("a as b, 16 now: none", x.signs(0), 0);
        x.sign(0, 200);
        Due.same("its own doesn't matter", x.signs(0), 0);
        Due.same("b as a, 200 now: none", x.signs(1), 0);
        Due.same("SIGN stays", x.block(0, 0), 200);
        Due.same("the eighth", Due.of(EIGHT).signs(7), 65535);
        Due.same("the ninth", Due.of(EIGHT).signs(8), -1);
        Twin.refuses("signs", -1, MarkGuards::signs, NO_BLOCKS);
        Due.same("without BLOCKS", new MarkGuards().signs(0), -1);
    }

    private static void asking() {
        Due.says("Promise 36", "ASK, what 0: the EDGE, 1: the BLOCK, 2: how many are left at worst.");
        MarkGuards x = Due.of(THREE);
        int[] due = {2, 0, 1};
        for (int what = 0; what < 3; what++) {
            Due.same("ask(0, " + what + ")", x.ask(0, what), due[what]);
        }
        MarkGuards y = Due.of("block a 1 0;block b 2 0;edge a b;");
        Due.same("none tells: all are left", y.ask(0, 2), 16);
        y.note(0, 0, true);
        Due.same("those left by a NOTE: a is 0", y.ask(0, 2), 1);
        Due.same("SIGN stays", y.block(0, 0), 1);
        Due.says("Promise 36", "-2: there are no SLIPS;");
        for (int what = 0; what < 3; what++) {
            Due.same("one BLOCK, ask(0, " + what + ")", Due.of("block a 1 1;edge a a;").ask(0, what), -2);
            Due.same("no EDGES, ask(7, " + what + ")", Due.of(EIGHT).ask(7, what), -2);
        }
    }

    private static void askingRefused() {
        Due.says("Promise 36", "NONE: no such ones.");
        for (int what = 0; what < 3; what++) {
            int w = what;
            Twin.refuses("ask(.., " + what + ")", -1, (y, n) -> y.ask(n, w), NO_BLOCKS);
            Due.same("no SLIPS, no such BLOCK", Due.of(EIGHT).ask(8, what), -1);
            Due.same("without BLOCKS", new MarkGuards().ask(0, what), -1);
        }
        Twin.refuses("ask(0, ..)", -1, (y, n) -> y.ask(0, n), -1, 3, 4, 32, MOST, LEAST);
        Due.same("no SLIPS, no such what", Due.of(EIGHT).ask(0, 3), -1);
        Due.same("no SLIPS, no such what", Due.of(EIGHT).ask(0, -1), -1);
    }

    /** p goes round; q alarms when a JUMP, of a hundred 30, leads there. */
    private static int alarmed(long seed, int n) {
        Numbers numbers = new Numbers(seed);
        int times = 0;
        for (int time = 0; time < 10; time++) {
            boolean alarm = false;
            for (int i = 0; i < n; i++) {
                if (numbers.next() % 100 < 30 && numbers.next() % 2 == 1) {
                    alarm = true;
                }
            }
            times += alarm ? 1 : 0;
        }
        return times;
    }

    private static void chance() {
        Due.says("Promise 37", "In how many of ten times drawn (numbers from a seed 0 .. 2147483647 on, one behind another; n 1 .. 99 "
            + "STEPS from now) there was an ALARM at least;");
        String text = "block p 5 0;block q 9 0;edge p p;check q;jump 30;seed 77;";
        for (int seed : new int[] {0, 1, 2, 99999, 100000, 1 << 30, MOST - 1, MOST}) {
            MarkGuards x = Due.of(text);
            for (int n : new int[] {1, 2, 5, 98, 99}) {
                Due.same("chance(" + seed + ", " + n + ")", x.chance(seed, n), alarmed(seed, n));
            }
        }
        MarkGuards sure = Due.of("block p 5 0;block q 9 0;edge p p;check q;jump 100;law land 1;");
        Due.same("ten of ten", sure.chance(0, 1), 10);
        sure.go(5);
        Due.same("ALARMS ahead of now don't count", sure.check(1) * 100 + sure.chance(0, 99), 0);
        Due.same("without BLOCKS", new MarkGuards().chance(0, 99), 0);
        MarkGuards late = Due.of("block p 5 0;block q 9 0;edge p p;check q;jump 100;law land step=9;");
        Due.same("nine STEPS from 0", late.chance(0, 9), 0);
        Due.same("ten STEPS from 0", late.chance(0, 10), 10);
        late.go(5);
        Due.same("four STEPS from 5", late.chance(0, 4), 0);
        Due.same("five STEPS from 5", late.chance(0, 5), 10);
    }

    private static void chanceRefused() {
        Due.says("Promise 37", "NONE: no such ones.");
        Twin.refuses("chance(.., 1)", -1, (x, n) -> x.chance(n, 1), -1, -2, LEAST, LEAST + 1);
        Twin.refuses("chance(0, ..)", -1, (x, n) -> x.chance(0, n), 0, -1, 100, 101, 256, MOST, LEAST);
        Twin.refuses("chance(" + MOST + ", ..)", -1, (x, n) -> x.chance(MOST, n), 0, -1, 100, 101, 256, MOST, LEAST);
        Due.same("without BLOCKS, n 0", new MarkGuards().chance(0, 0), -1);
        Due.same("without BLOCKS, n 100", new MarkGuards().chance(0, 100), -1);
        Due.same("without BLOCKS, below 0", new MarkGuards().chance(-1, 1), -1);
    }

    private static void tried() {
        Due.says("Promise 38", "TRIED (n 0 .. 200);");
        MarkGuards x = Due.of("block a 1 5;block b 2 7;edge a a;edge a b;edge b b;edge b a;check b;jump 50;");
        // as it goes each STEP is a JUMP to b
        for (int what = 0; what < 5; what++) {
            Due.same("tried(" + what + ", 0, 0)", x.tried(what, 0, 0), 0);
        }
        Due.same("one STEP without JUMPS", x.tried(0, 0, 1), 5);
        Due.same("200 without CHECKS", x.tried(1, 0, 200), 1400);
        Due.same("200, a has WORK 0", x.tried(2, 0, 200), 1400);
        Due.same("200, b has WORK 0", x.tried(2, 1, 200), 0);
        Due.same("200 JUMPS", x.tried(3, 0, 200), 1400);
        Due.same("200 first EDGES", x.tried(4, 0, 200), 1400);
        MarkGuards none = new MarkGuards();
        for (int what = 0; what < 5; what++) {
            Due.same("without BLOCKS tried(" + what + ", 0, 200)", none.tried(what, 0, 200), what == 2 ? -1 : 0);
        }
        MarkGuards full = Due.of("block a 1 0;edge a a;law out 999;");
        for (int i = 0; i < 5; i++) {
            full.go(200);
        }
        Due.same("TOTAL 999000: 999 more at most", full.tried(0, 0, 200), 999);
    }

    private static void triedRefused() {
        Due.says("Promise 38", "NONE: no such ones (i 0 of all but 2).");
        for (int what = 0; what < 5; what++) {
            int w = what;
            Twin.refuses("tried(" + what + ", 0, ..)", -1, (x, n) -> x.tried(w, 0, n), -1, 201, 202, 256, MOST, LEAST);
            Twin.refuses("tried(" + what + ", .., 1)", -1, (x, n) -> x.tried(w, n, 1), NO_BLOCKS);
            if (what != 2) {
                Twin.refuses("tried(" + what + ", .., 0)", -1, (x, n) -> x.tried(w, n, 0), 1, 2);
            } else {
                Due.same("i 2 of three", Due.of(THREE).tried(2, 2, 1) >= 0, true);
                Due.same("i 7 of eight", Due.of(EIGHT).tried(2, 7, 1), 0);
                Due.same("i 8 of eight", Due.of(EIGHT).tried(2, 8, 1), -1);
            }
        }
        Twin.refuses("tried(.., 0, 1)", -1, (x, n) -> x.tried(n, 0, 1), -1, 5, 6, 32, 33, MOST, LEAST);
    }

    private static void undoing() {
        Due.says("Promise 39", "The latest is undone: how many are left;");
        MarkGuards x = Due.of(THREE);
        x.check(1);
        x.sign(0, 9);
        x.jump(2);
        Due.same("the jump", x.undo(), 2);
        Due.same("no JUMP", x.count(10) + x.count(8) + x.block(2, 3), 0);
        Due.same("the SIGN", x.undo(), 1);
        Due.same("SIGN", x.block(0, 0), 1);
        x.sign(0, 8);
        Due.same("the newer SIGN", x.undo(), 1);
        Due.same("the CHECK", x.undo(), 0);
        Due.same("no CHECK", x.block(1, 2), 0);
        Due.says("Promise 39", "NONE: none.");
        Due.same("none is left", x.undo(), -1);
        Due.same("none is left still", x.undo(), -1);
        Due.same("of a new object", new MarkGuards().undo(), -1);
        Twin twin = new Twin();
        twin.both(Twin::makeRich);
        twin.both(y -> Due.feed(y, "limit 3;"));
        twin.both(y -> y.go(1));
        Due.same("a STEP went by", twin.tried.undo(), -1);
        twin.alike("undo of nothing");
        Twin noted = new Twin();
        noted.both(Twin::makeRich);
        noted.tried.check(1);
        Due.same("undone at once", noted.tried.undo(), 3);
        noted.alike("a CHECK and undo");
        noted = new Twin();
        noted.both(Twin::makeRich);
        noted.tried.jump(2);
        Due.same("undone at once", noted.tried.undo(), 3);
        noted.alike("a JUMP and undo");
        noted = new Twin();
        noted.both(Twin::makeRich);
        noted.tried.sign(2, 255);
        Due.same("undone at once", noted.tried.undo(), 3);
        noted.alike("a SIGN and undo");
    }

    private static void keeping() {
        Due.says("Promise 40", "An IMAGE is kept (in place of one ahead): which STEP it is.");
        MarkGuards x = Due.of(THREE);
        Due.same("STEP 0", x.keep(), 0);
        x.go(7);
        Due.same("STEP 7", x.keep(), 7);
        x.go(3);
        Due.same("the later one", x.back(), 7);
        Due.same("it stays", x.back(), 7);
        Due.same("of a new object", new MarkGuards().keep(), 0);
        x.check(0);
        x.keep();
        Due.same("what can be undone stays", x.count(14), 1);
        x.undo();
        Due.same("undone", x.block(0, 2), 0);
        x.back();
        Due.same("the IMAGE has it", x.block(0, 2), 1);
    }

    private static void goingBack() {
        Due.says("Promise 41", "All (but NOTES) is as in the IMAGE (nothing to undo then): which STEP it is;");
        MarkGuards x = Due.of(THREE + "jump 40;seed 6;");
        x.go(30);
        x.sign(1, 250);
        x.check(1);
        x.keep();
        int[] kept = new int[12];
        for (int what = 0; what < 12; what++) {
            kept[what] = x.count(what);
        }
        int visits = x.block(0, 3) * 10000 + x.block(1, 3) * 100 + x.block(2, 3);
        x.go(30);
        x.note(0, 0, true);
        x.note(0, 0, true);
        x.known(1);
        x.sign(1, 3);
        x.check(1);
        x.jump(1);
        Due.same("back", x.back(), 30);
        for (int what = 0; what < 12; what++) {
            Due.same("count(" + what + ")", x.count(what), kept[what]);
        }
        Due.same("VISITS", x.block(0, 3) * 10000 + x.block(1, 3) * 100 + x.block(2, 3), visits);
        Due.same("SIGN", x.block(1, 0), 250);
        Due.same("CHECK", x.block(1, 2), 1);
        Due.same("NOTES stay", x.count(12), 2);
        Due.same("nothing to undo", x.count(14), 0);
        Due.same("nothing to undo", x.undo(), -1);
        x.check(0);
        Due.same("to undo again", x.undo(), 0);
        endsAndAdjust();
        MarkGuards none = new MarkGuards();
        none.keep();
        none.go(9);
        Due.same("without BLOCKS", none.back(), 0);
        Due.same("the STEP", none.count(4), 0);
    }

    private static void endsAndAdjust() {
        // a -> b, b -> c with ADJUST 3, the END
        MarkGuards x = Due.of("block a 1 5;block b 2 7;block c 4 9;edge a b;edge a c;edge b c;base c a;law turn 0;");
        x.go(5);
        Due.same("an END, ADJUST 3", x.count(11) * 10 + x.count(7), 13);
        x.keep();
        x.go(1);
        Due.same("two ENDS, ADJUST 0", x.count(11) * 10 + x.count(7), 20);
        x.back();
        Due.same("as in the IMAGE", x.count(11) * 10 + x.count(7), 13);
        x.sign(0, 77);
        x.check(2);
        Due.same("an ALARM", x.jump(2), false);
        Due.same("ADJUST 0", x.count(7), 0);
        x.undo();
        Due.same("undone", x.count(11) * 10 + x.count(7), 13);
    }

    private static void nothingToGoBackTo() {
        Due.says("Promise 41", "NONE: there is none.");
        Due.same("of a new object", new MarkGuards().back(), -1);
        MarkGuards x = Due.of(THREE);
        x.go(4);
        x.check(0);
        Due.same("none kept", x.back(), -1);
        Due.same("the STEP stays", x.count(4), 4);
        Due.same("what can be undone stays", x.count(14), 1);
        x.keep();
        Due.read(x, THREE);
        Due.same("none behind a text", x.back(), -1);
        x.keep();
        Due.read(x, "limit 41;");
        Due.same("there is behind a faulty one", x.back(), 0);
        x.text(5);
        Due.same("there is behind text that was -2", x.back(), 0);
    }

    private static void counting() {
        Due.says("Promise 42", "0 BLOCKS, 1 EDGES, 2 CHECKS, 3 KNOTS, 4 the STEP, 5 the BLOCK one stands in (-2: there are none), "
            + "6 MARK, 7 ADJUST, 8 TOTAL, 9 ALARMS, 10 JUMPS, 11 ENDS so far, 12 NOTES, 13 by how many it is KNOWN, 14 what can be "
            + "undone.");
        int[] empty = {0, 0, 0, 0, 0, -2, 0, 0, 0, 0, 0, 0, 0, 0, 0};
        MarkGuards none = new MarkGuards();
        for (int what = 0; what < 15; what++) {
            Due.same("of a new object count(" + what + ")", none.count(what), empty[what]);
        }
        MarkGuards x = Due.of("block a 1 5;block b 2 7;block c 4 9;edge a b;edge a c;edge b c;check c;law turn not visits;");
        // by a -> c; the END; JUMPS by call to b, c (right), c (an ALARM), c (right)
        x.go(1);
        Due.same("a -> c", x.count(5) * 100 + x.count(6) * 10 + x.count(7), 240);
        x.go(1);
        Due.same("an END", x.count(11), 1);
        x.jump(1);
        x.go(1);
        Due.same("ADJUST of b -> c", x.count(7), 3);
        x.jump(2);
        x.jump(2);
        x.check(0);
        x.note(0, 0, true);
        x.strike(0);
        x.note(0, 0, true);
        x.known(2);
        int[] due = {3, 3, 2, 2, 3, 2, 4, 0, 9 + 7 + 9 + 9 + 9, 1, 3, 1, 3, 2, 3};
        for (int what = 0; what < 15; what++) {
            Due.same("count(" + what + ")", x.count(what), due[what]);
        }
        Due.says("Promise 42", "NONE for another what.");
        Twin.refuses("count", -1, MarkGuards::count, -1, 15, 16, 32, 46, MOST, LEAST);
        Due.same("of a new object", none.count(15), -1);
    }

    /** What only looks changes nothing, with right numbers, too. */
    private static void looking() {
        Due.says("Not promised", "Nothing is promised beyond the answers and state changes described above");
        Twin.refuses("looks", 0, (x, n) -> {
            x.fault(n);
            x.named(1 << 25);
            x.block(n, n);
            x.edge(n, n);
            x.base(n);
            x.diff(n);
            x.law(n, n);
            x.ahead(100 + n, n);
            x.comes(n);
            x.slip(n, 0);
            x.caught(n, 0);
            x.soonest(n, 0);
            x.beyond(n, 0);
            x.cover(n);
            x.checks(n);
            x.bases();
            x.only(n);
            x.far(n, 0);
            x.ring(n);
            x.nearest(n);
            x.leaders(n, 5, 1);
            x.holds(n, 1);
            x.ways(n, 9);
            x.alike();
            x.signs(n);
            x.ask(n, n);
            x.chance(n, 99);
            x.tried(n, n == 2 ? 1 : 0, 200);
            x.count(n);
            return 0;
        }, 0, 1, 2);
        for (int what = 0; what < 5; what++) {
            MarkGuards x = Due.of(THREE + "law out work;law turn visits;");
            MarkGuards y = Due.of(THREE + "law out work;law turn visits;");
            int i = what == 2 ? 2 : 0;
            x.tried(what, i, 5);
            Due.same("law behind tried(" + what + ")", x.law(0, 2), y.law(0, 2));
            x.tried(what, i, 5);
            Due.same("comes behind tried(" + what + ")", x.comes(2), y.comes(2));
            x.tried(what, i, 5);
            Due.same("ahead behind tried(" + what + ")", x.ahead(6, 2), y.ahead(6, 2));
            x.tried(what, i, 5);
            Due.same("chance behind tried(" + what + ")", x.chance(1, 9), y.chance(1, 9));
            x.tried(what, i, 5);
            x.jump(2);
            y.jump(2);
            Due.same("jump behind tried(" + what + ")", x.count(8), y.count(8));
            x.tried(what, i, 5);
            x.go(9);
            y.go(9);
            Due.same("go behind tried(" + what + ")", x.count(8) * 10 + x.count(5), y.count(8) * 10 + y.count(5));
        }
    }
}
