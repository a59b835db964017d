/** The parts marked ==== 3 and ==== 4, sentence by sentence: what is looked at, NOTES, what can be undone, the IMAGE. */
public final class LooksBoundsTest {
    private static final String THREE = "block a 1 5;block b 2 7;block c 4 9;edge a b;edge a c;edge b c;edge c a;";
    private static final String CHAIN = blocks(8) + chain(7);
    private static final String RING = CHAIN + "edge h a;";

    public static void main(String[] args) {
        ahead();
        comes();
        slips();
        lookingRight();
        states();
        caught();
        soonest();
        beyond();
        cover();
        checks();
        bases();
        only();
        far();
        ring();
        nearest();
        leaders();
        holds();
        ways();
        alike();
        notes();
        striking();
        known();
        signs();
        asking();
        tried();
        undoing();
        image();
        Due.finish();
    }

    /** a has SIGN 1, b SIGN 2 and so on. */
    private static String blocks(int n) {
        StringBuilder text = new StringBuilder();
        for (int b = 0; b < n; b++) {
            text.append("block ").append((char) ('a' + b)).append(' ').append(b + 1).append(" 1;");
        }
        return text.toString();
    }

    /** EDGES from each BLOCK to the next one. */
    private static String chain(int n) {
        StringBuilder text = new StringBuilder();
        for (int b = 0; b < n; b++) {
            text.append("edge ").append((char) ('a' + b)).append(' ').append((char) ('b' + b)).append(';');
        }
        return text.toString();
    }

    private static void ahead() {
        Due.says("Part 3", "AHEAD for n STEPS as it goes: the BLOCK, MARK, TOTAL more, ALARMS more, JUMPS more.");
        for (int n : new int[] {0, 1, 2, 3, 4, 5, 199, 200}) {
            MarkGuards x = Due.of(THREE + "check b;law turn visits;");
            x.go(3);
            x.sign(0, 6);
            x.jump(1);
            int[] before = {0, 0, x.count(8), x.count(9), x.count(10)};
            int[] more = new int[5];
            for (int what = 0; what < 5; what++) {
                more[what] = x.ahead(n, what);
            }
            x.go(n);
            int[] then = {x.count(5), x.count(6), x.count(8), x.count(9), x.count(10)};
            for (int what = 0; what < 5; what++) {
                Due.same("ahead(" + n + ", " + what + ")", more[what], then[what] - before[what]);
            }
        }
        MarkGuards x = Due.of("block a 1 5;block b 2 7;edge a a;edge b b;check b;jump 50;");
        Due.same("JUMPS more", x.ahead(200, 4), 200);
        Due.same("each alarms in b", x.ahead(200, 3), 200);
        Due.same("TOTAL more", x.ahead(200, 2), 1400);
    }

    private static String comingIn(int steps) {
        return "block a 1 1;block b 1 1;block c 1 1;edge a a;edge a b;law turn step=" + (steps - 1) + ";";
    }

    private static void comes() {
        Due.says("Part 3", "COMES of a BLOCK: in how many STEPS as it goes, 199 at most, one stands in it (0: now).");
        Due.same("now", Due.of(comingIn(5)).comes(0), 0);
        Due.same("in 1 STEP", Due.of(comingIn(1)).comes(1), 1);
        Due.same("in 198 STEPS", Due.of(comingIn(198)).comes(1), 198);
        Due.same("in 199 STEPS", Due.of(comingIn(199)).comes(1), 199);
        Due.same("in 200 STEPS", Due.of(comingIn(200)).comes(1), -2);
        Due.same("never", Due.of(comingIn(5)).comes(2), -2);
        MarkGuards x = Due.of(comingIn(200));
        x.go(1);
        Due.same("a STEP later in 199", x.comes(1), 199);
    }

    private static void slips() {
        Due.says("Part 3", "SLIP of an EDGE by its number and a BLOCK: what MARK is when one leaves by the EDGE, MARK right "
            + "(SIGN of where one stands), but lands in that BLOCK.");
        MarkGuards x = Due.of(THREE);
        Due.same("by a -> b into a", x.slip(0, 0), 1 ^ 4 ^ 1);
        Due.same("by a -> b into c, a JOIN", x.slip(0, 2), 1 ^ 1 ^ 4);
        Due.same("by b -> c into b", x.slip(2, 1), 2 ^ 1 ^ 2);
        Due.same("by c -> a into c, a JOIN", x.slip(3, 2), 4 ^ 1 ^ 4);
        x.jump(1);
        x.jump(1);
        Due.same("whatever MARK is now", x.slip(0, 0), 1 ^ 4 ^ 1);
        MarkGuards y = Due.of("block a 255 0;block b 0 0;edge a a;edge b b;");
        Due.same("the most", y.slip(0, 1), 255);
        Due.same("the least", y.slip(1, 0), 0);
    }

    private static void lookingRight() {
        Due.says("Part 3", "A SLIP LOOKS RIGHT, if that is SIGN of the BLOCK; a SLIP to where the EDGE leads is none.");
        MarkGuards x = Due.of(THREE);
        Due.same("a -> b into c and a -> c into b", x.cover(1), 2);
        Due.same("a -> b into b", x.slip(0, 1), -1);
        Due.same("its own EDGE", Due.of("block a 1 1;edge a a;").slip(0, 0), -1);
        Due.same("into the other one of two", Due.of("block a 1 1;block b 1 1;edge a a;").slip(0, 1), 0);
    }

    private static void states() {
        Due.says("Part 3", "A STATE: a BLOCK, MARK, ADJUST as one has ENTERED it. BEHIND a STATE: by each EDGE from there "
            + "(no JUMPS) the STATE one comes to.");
        // c is entered with ADJUST 0 from a and with ADJUST 3 from b: two STATES
        Due.same("a, b, c, c", Due.of(THREE).beyond(0, 0), 4);
        Due.same("SIGNS of a and b alike: a, b, c", Due.of(THREE.replace("block b 2", "block b 1")).beyond(0, 0), 3);
        // c by the first EDGE and by the second one with ADJUST 0: one STATE
        String alike = "block a 1 0;block b 1 0;block c 4 0;edge a c;edge b c;edge c a;edge a b;";
        Due.same("a, c, b", Due.of(alike).beyond(0, 0), 3);
        Due.same("a, c, b, c", Due.of(alike.replace("block b 1", "block b 2")).beyond(0, 0), 4);
        // landed in b with ADJUST 3, b is entered with ADJUST 0 later on
        Due.same("b, c, a, b, c", Due.of(THREE).beyond(2, 1), 5);
        Due.same("no JUMPS", Due.of(THREE + "jump 100;").beyond(2, 1), 5);
        Due.same("no EDGES: landing alone", Due.of("block a 1 0;block b 2 0;edge a a;").beyond(0, 1), 1);
    }

    private static void caught() {
        Due.says("Part 3", "CAUGHT of a SLIP: the most STEPS, that of the SLIP with, till an ALARM, whatever EDGES are taken;");
        MarkGuards x = Due.of(CHAIN + "check h;");
        for (int b = 0; b < 7; b++) {
            Due.same("from g -> h into " + b, x.caught(6, b), 8 - b);
        }
        Due.same("into the CHECK", x.caught(0, 7), 1);
        Due.same("the longer way", Due.of(THREE + "check c;").caught(3, 1), 2);
        Due.same("of two ways the longer one", Due.of(THREE + "check c;").caught(2, 0), 3);
        Due.same("by CHECKS in both", Due.of(THREE + "check c;check b;").caught(2, 0), 2);
        Due.says("Part 3", "never, if one can come to a BLOCK without EDGES, or go on for ever, without one.");
        Due.same("LOOKS RIGHT, a CHECK there", Due.of(THREE + "check c;").caught(0, 2), -2);
        Due.same("LOOKS RIGHT, CHECKS everywhere", Due.of(THREE + "check a;check b;check c;").caught(1, 1), -2);
        Due.same("to the end of the chain", Due.of(CHAIN + "check a;").caught(6, 1), -2);
        Due.same("in the end of the chain", Due.of(CHAIN + "check a;").caught(0, 7), -2);
        Due.same("round the ring", Due.of(RING).caught(0, 7), -2);
        Due.same("a CHECK on the ring", Due.of(RING + "check a;").caught(0, 2), 7);
        Due.same("round itself", Due.of("block a 1 0;block b 2 0;edge a a;edge a b;edge b b;check b;").caught(2, 0), -2);
        Due.same("one way ends", Due.of("block a 1 0;block b 2 0;block c 4 0;block d 8 0;edge b c;edge b d;edge a b;check c;")
            .caught(0, 1), -2);
    }

    private static void soonest() {
        Due.says("Part 3", "SOONEST of it: the fewest STEPS till an ALARM (never, if there is no such way).");
        MarkGuards x = Due.of(CHAIN + "check h;");
        for (int b = 0; b < 7; b++) {
            Due.same("from g -> h into " + b, x.soonest(6, b), 8 - b);
        }
        Due.same("into the CHECK", x.soonest(0, 7), 1);
        Due.same("of two ways the shorter one", Due.of(THREE + "check c;").soonest(2, 0), 2);
        Due.same("LOOKS RIGHT", Due.of(THREE + "check a;check b;check c;").soonest(0, 2), -2);
        Due.same("no CHECKS", Due.of(RING).soonest(0, 7), -2);
        Due.same("no way to one", Due.of(CHAIN + "check a;").soonest(6, 1), -2);
        Due.same("one way though another goes on for ever",
            Due.of("block a 1 0;block b 2 0;edge a a;edge a b;edge b b;check b;").soonest(2, 0), 2);
    }

    private static void beyond() {
        Due.says("Part 3", "BEYOND a SLIP: how many STATES, that of landing with, can be come to (ALARMED ones with, but they "
            + "are not gone on from).");
        Due.same("ALARMED at once", Due.of(RING + "check a;").beyond(6, 0), 1);
        Due.same("all of the chain", Due.of(CHAIN).beyond(6, 0), 8);
        Due.same("the ALARMED one with", Due.of(CHAIN + "check c;").beyond(6, 0), 3);
        Due.same("the ring once", Due.of(RING).beyond(6, 0), 8);
        Due.same("the last one", Due.of(CHAIN).beyond(0, 7), 1);
        Due.same("LOOKS RIGHT: CHECKS don't end it", Due.of(THREE + "check a;check b;check c;").beyond(0, 2), 4);
    }

    private static String full() {
        StringBuilder text = new StringBuilder(blocks(8));
        for (int e = 0; e < 16; e++) {
            text.append("edge ").append((char) ('a' + e / 2)).append(' ').append((char) ('a' + e % 2)).append(';');
        }
        return text.toString();
    }

    private static void coverOf(String text, int... due) {
        MarkGuards x = Due.of(text);
        for (int what = 0; what < 4; what++) {
            Due.same(text + " cover(" + what + ")", x.cover(what), due[what]);
        }
    }

    private static void cover() {
        Due.says("Part 3", "COVER: of all SLIPS (EDGES by BLOCKS, those that LOOK RIGHT, too): how many there are, LOOK RIGHT, "
            + "are CAUGHT in limit STEPS at most, are never CAUGHT.");
        coverOf("", 0, 0, 0, 0);
        coverOf(blocks(8), 0, 0, 0, 0);
        coverOf("block a 1 0;edge a a;check a;", 0, 0, 0, 0);
        // into a in 3 STEPS, into b in 2, into c in 1; two LOOK RIGHT
        coverOf(THREE + "check c;limit 1;", 8, 2, 1, 2);
        coverOf(THREE + "check c;limit 2;", 8, 2, 3, 2);
        coverOf(THREE + "check c;limit 3;", 8, 2, 6, 2);
        coverOf(THREE + "check c;limit 40;", 8, 2, 6, 2);
        coverOf(THREE, 8, 2, 0, 8);
        Due.same("the most SLIPS", Due.of(full()).cover(0), 16 * 7);
        coverOf(full().replaceAll("(block .) .", "$1 0") + "check a;check b;", 112, 112, 0, 112);
    }

    private static void checksOf(String text, int blocks, int caught) {
        MarkGuards x = Due.of(text);
        Due.same(text + " checks(0)", x.checks(0), blocks);
        Due.same(text + " checks(1)", x.checks(1), caught);
    }

    private static void checks() {
        Due.says("Part 3", "CHECKS: the fewest BLOCKS (bits, of several the least; none, if that will do) with CHECKS in them "
            + "alone by which as many SLIPS are CAUGHT in limit STEPS as by CHECKS in all BLOCKS.");
        checksOf("", 0, 0);
        checksOf(blocks(8), 0, 0);
        checksOf("block a 3 0;block b 3 0;edge a b;edge b a;", 0, 0);
        // round the ring of eight no SLIP LOOKS RIGHT: 8 EDGES by 7 BLOCKS
        checksOf(RING + "limit 1;", 255, 56);
        checksOf(RING + "limit 2;", 0x55, 56);
        checksOf(RING + "limit 3;", 0x25, 56);
        checksOf(RING + "limit 4;", 0x11, 56);
        checksOf(RING + "limit 7;", 0x03, 56);
        checksOf(RING + "limit 8;", 1, 56);
        checksOf(RING + "check c;check d;limit 8;", 1, 56);
        // one SLIP alone doesn't LOOK RIGHT: by a -> a into b
        checksOf("block a 1 0;block b 2 0;edge a a;", 2, 1);
        // the end of a chain needs its own
        checksOf(CHAIN + "limit 8;", 128, 49);
        checksOf(CHAIN + "limit 7;", 129, 49);
    }

    private static void bases() {
        Due.says("Part 3", "BASES: of all ways to choose BASES (each BLOCK of those from which EDGES lead to it) the fewest "
            + "SLIPS that LOOK RIGHT.");
        Due.same("no BLOCKS", Due.of("").bases(), 0);
        Due.same("no SLIPS", Due.of("block a 1 0;edge a a;").bases(), 0);
        Due.same("c by b", Due.of(THREE).bases(), 1);
        Due.same("told otherwise", Due.of(THREE + "base c a;").bases(), 1);
        Due.same("as told", Due.of(THREE + "base c b;").cover(1), 1);
        Due.same("no choice", Due.of(RING).bases(), 0);
        Due.same("all alike", Due.of(full().replaceAll("(block .) .", "$1 0")).bases(), 112);
        MarkGuards x = Due.of(full());
        Due.so("at most as many as now", x.bases() <= x.cover(1));
        everyChoice("aa ba ca ab bb cb ac bc cc", 1, 2, 4);
        everyChoice("aa ba ca ab bb cb ac bc cc", 1, 1, 4);
        everyChoice("ab ac ba bd ca cb da dc", 1, 2, 3, 3);
        everyChoice("ab ac ba bd ca cb da dc", 5, 2, 5, 7);
        everyChoice("cb ab bc ac ba ca", 1, 2, 3);
        everyChoice("ba ca cb ab", 6, 6, 3);
        everyChoice("ba ca ab ac", 1, 2, 3);
        everyChoice("ba ca ab ac", 1, 3, 1);
        everyChoice("ba ca ab bc", 5, 5, 3);
        everyChoice("ab bb ac bc", 9, 3, 3);
        everyChoice("ac bc ad bd", 1, 2, 4, 8);
        everyChoice("ac bc ad bd ab bb", 7, 2, 5, 0);
    }

    /** The fewest of what cover(1) tells of each way to tell BASES. */
    private static void everyChoice(String edges, int... signs) {
        StringBuilder text = new StringBuilder();
        for (int b = 0; b < signs.length; b++) {
            text.append("block ").append((char) ('a' + b)).append(' ').append(signs[b]).append(" 0;");
        }
        for (String edge : edges.split(" ")) {
            text.append("edge ").append(edge.charAt(0)).append(' ').append(edge.charAt(1)).append(';');
        }
        int bases = Due.of(text.toString()).bases();
        Due.same("BASES of " + text, bases, fewest(text.toString(), edges.split(" "), 0, signs.length, bases));
    }

    private static int fewest(String text, String[] edges, int block, int blocks, int bases) {
        if (block == blocks) {
            Due.same("BASES, whatever is told: " + text, Due.of(text).bases(), bases);
            return Due.of(text).cover(1);
        }
        int fewest = Integer.MAX_VALUE;
        for (String edge : edges) {
            if (edge.charAt(1) - 'a' == block) {
                String told = text + "base " + edge.charAt(1) + " " + edge.charAt(0) + ";";
                fewest = Math.min(fewest, fewest(told, edges, block + 1, blocks, bases));
            }
        }
        return fewest < Integer.MAX_VALUE ? fewest : fewest(text, edges, block + 1, blocks, bases);
    }

    private static void only() {
        Due.says("Part 3", "ONLY of a BLOCK: BLOCKS (bits) on each way by EDGES from the ENTRY to it, both with.");
        Due.same("the ENTRY", Due.of(CHAIN).only(0), 1);
        Due.same("the ENTRY on a ring", Due.of(RING).only(0), 1);
        Due.same("the last of eight", Due.of(CHAIN).only(7), 255);
        Due.same("past it", Due.of(CHAIN + "edge b h;").only(7), 1 | 2 | 128);
        Due.same("two ways", Due.of(THREE).only(2), 1 | 4);
        Due.same("none leads there", Due.of(blocks(8) + chain(6)).only(7), 0);
    }

    private static void far() {
        Due.says("Part 3", "FAR of two BLOCKS: how few EDGES lead from one to the other one.");
        Due.same("alike", Due.of(CHAIN).far(7, 7), 0);
        Due.same("next", Due.of(CHAIN).far(6, 7), 1);
        Due.same("the farthest", Due.of(CHAIN).far(0, 7), 7);
        Due.same("the farthest on a ring", Due.of(RING).far(1, 0), 7);
        Due.same("the shorter way", Due.of(CHAIN + "edge b h;").far(0, 7), 2);
        Due.same("not back", Due.of(CHAIN).far(7, 0), -2);
    }

    private static void ring() {
        Due.says("Part 3", "RING of a BLOCK: BLOCKS (bits) from which one comes to it and to which one comes from it by EDGES, "
            + "it with.");
        Due.same("it alone", Due.of(CHAIN).ring(3), 8);
        Due.same("the first alone", Due.of(CHAIN).ring(0), 1);
        Due.same("all eight", Due.of(RING).ring(7), 255);
        Due.same("two", Due.of(CHAIN + "edge h g;").ring(7), 64 | 128);
        Due.same("its own EDGE", Due.of(CHAIN + "edge h h;").ring(7), 128);
        Due.same("from where one doesn't come back", Due.of(CHAIN + "edge h g;").ring(5), 32);
    }

    private static void nearest() {
        Due.says("Part 3", "NEAREST check from a BLOCK: how few EDGES lead from it to one with a CHECK (0: it has).");
        Due.same("it has", Due.of(CHAIN + "check h;").nearest(7), 0);
        Due.same("the next one", Due.of(CHAIN + "check h;").nearest(6), 1);
        Due.same("the farthest", Due.of(CHAIN + "check h;").nearest(0), 7);
        Due.same("the nearer one", Due.of(CHAIN + "check h;check c;").nearest(0), 2);
        Due.same("only behind it", Due.of(CHAIN + "check a;").nearest(1), -2);
        Due.same("none at all", Due.of(RING).nearest(1), -2);
    }

    private static void leaders() {
        Due.says("Part 3", "LEADERS from a BLOCK for n EDGES (0 .. 9): two by turns take an EDGE; the first one, who begins, "
            + "wins as soon as they are in a BLOCK with a CHECK (at once, if it is that one); the other one, if n are taken "
            + "or no EDGE leads on.");
        MarkGuards x = Due.of(CHAIN + "check h;");
        Due.same("at once, 0 EDGES", x.leaders(7, 0, 0), 0);
        Due.same("at once, 9 EDGES", x.leaders(7, 9, 0), 0);
        for (int b = 0; b < 7; b++) {
            Due.same("too few from " + b, x.leaders(b, 6 - b, 0), 1);
            Due.same("as many as it takes from " + b, x.leaders(b, 7 - b, 0), 0);
        }
        Due.same("no EDGE leads on", Due.of(CHAIN + "check a;").leaders(1, 9, 0), 1);
        // from g to a, then the other one goes round once more (seven), then the first one takes h: the ninth EDGE
        String round = blocks(8) + chain(6) + "edge g a;edge a h;check h;";
        Due.same("nine are enough", Due.of(round).leaders(6, 9, 0), 0);
        Due.same("by its EDGE", Due.of(round).leaders(6, 9, 1), 6);
        Due.same("eight are not", Due.of(round).leaders(6, 8, 0), 1);
        Due.same("no EDGE then", Due.of(round).leaders(6, 8, 1), -2);
        Due.same("from a the first one takes h", Due.of(round).leaders(0, 1, 1), 7);
        String game = blocks(4) + "edge a b;edge b c;edge b d;check c;";
        Due.same("the other one leads past it", Due.of(game).leaders(0, 2, 0), 1);
        Due.same("the first one doesn't", Due.of(game).leaders(1, 1, 0), 0);
        Due.same("all the other one can do is lead to one", Due.of(game + "check d;").leaders(0, 2, 0), 0);
    }

    private static void holds() {
        Due.says("Part 3", "HOLDS for n: how likely n STEPS have no JUMP, as a fraction.");
        Object[][] rows = {{"", 6, 1L, 1L}, {"jump 0;", 6, 1L, 1L}, {"jump 1;", 1, 99L, 100L}, {"jump 50;", 6, 1L, 64L},
            {"jump 40;", 6, 729L, 15625L}, {"jump 99;", 1, 1L, 100L}, {"jump 100;", 1, 0L, 1L}, {"jump 100;", 0, 1L, 1L},
            {"jump 37;", 6, 62523502209L, 1000000000000L}, {"jump 1;", 6, 941480149401L, 1000000000000L}};
        for (Object[] row : rows) {
            MarkGuards x = Due.of((String) row[0]);
            Due.same(row[0] + " above, " + row[1], x.holds((Integer) row[1], 0), (Long) row[2]);
            Due.same(row[0] + " below, " + row[1], x.holds((Integer) row[1], 1), (Long) row[3]);
        }
    }

    private static void ways() {
        Due.says("Part 3", "WAYS of n EDGES (0 .. 9) from the ENTRY to a BLOCK: how many.");
        MarkGuards all = Due.of(blocks(3) + "edge a a;edge a b;edge a c;edge b a;edge b b;edge b c;edge c a;edge c b;edge c c;");
        Due.same("none taken, the ENTRY", all.ways(0, 0), 1);
        Due.same("none taken, another one", all.ways(1, 0), 0);
        int due = 1;
        for (int n = 1; n <= 9; n++) {
            Due.same("three to the " + (n - 1), all.ways(2, n), due);
            due *= 3;
        }
        Due.same("round the ring once", Due.of(RING).ways(0, 8), 1);
        Due.same("not by nine", Due.of(RING).ways(0, 9), 0);
        Due.same("round and on", Due.of(RING).ways(1, 9), 1);
        Due.same("behind the end", Due.of(CHAIN).ways(7, 8), 0);
    }

    private static void alike() {
        Due.says("Part 3", "ALIKE: pairs of BLOCKS of the same SIGN.");
        Due.same("no BLOCKS", Due.of("").alike(), 0);
        Due.same("one BLOCK", Due.of(blocks(1)).alike(), 0);
        Due.same("none of eight", Due.of(CHAIN).alike(), 0);
        Due.same("all of eight", Due.of("block a 7 0;block b 7 0;block c 7 0;block d 7 0;block e 7 0;block f 7 0;"
            + "block g 7 0;block h 7 0;").alike(), 28);
        Due.same("two and two", Due.of("block a 0 0;block b 255 0;block c 0 0;block d 255 0;").alike(), 2);
    }

    private static void notes() {
        Due.says("Part 3", "NOTES (note), at most 24, numbered from 0 on: a SLIP by an EDGE to a BLOCK LOOKS RIGHT, or doesn't.");
        MarkGuards x = Due.of(THREE);
        for (int i = 0; i < 24; i++) {
            Due.same("NOTES", x.count(12), i);
            Due.same("the NOTE", i % 2 == 0 ? x.note(0, 0, i % 4 == 0) : x.strike(0), i);
        }
        Due.same("a 25th", x.note(0, 0, true), -1);
        Due.same("a 25th that strikes", x.strike(0), -1);
        Due.same("24", x.count(12), 24);
        MarkGuards y = Due.of("block p 3 0;block q 5 0;edge p p;");
        y.note(0, 1, true);
        Due.same("LOOKS RIGHT: p is 0", y.signs(0), 1);
        MarkGuards z = Due.of("block p 3 0;block q 5 0;edge p p;");
        z.note(0, 1, false);
        Due.same("it doesn't: p isn't", z.signs(0), 65534);
    }

    private static void striking() {
        Due.says("Part 3", "One may strike one ahead of it (STRUCK).");
        MarkGuards x = Due.of("block p 3 0;block q 5 0;edge p p;");
        Due.same("none is ahead", x.strike(0), -1);
        x.note(0, 1, true);
        Due.same("itself isn't", x.strike(1), -1);
        Due.same("the one ahead", x.strike(0), 1);
        Due.same("STRUCK", x.signs(0), 65535);
        Due.same("itself isn't", x.strike(2), -1);
        Due.same("the last one ahead", x.strike(1), 2);
        Due.same("not STRUCK then", x.signs(0), 1);
    }

    private static void known() {
        Due.says("Part 3", "KNOWN by n (all at first): the first n that aren't STRUCK by one of these (what strikes may be "
            + "STRUCK: then it doesn't count; asked from the last one on).");
        MarkGuards x = Due.of("block p 3 0;block q 5 0;edge p p;");
        x.note(0, 1, true);
        x.strike(0);
        x.strike(1);
        x.strike(2);
        x.strike(0);
        x.strike(4);
        // by n: nothing; 0; 1 strikes 0; 2 strikes 1; 3 strikes 2; 4 strikes 0, too; 5 strikes 4, 1 strikes 0 still
        int[] due = {65535, 1, 65535, 1, 65535, 65535, 65535};
        Due.same("all at first", x.signs(0), due[6]);
        for (int n = 0; n <= 6; n++) {
            x.known(n);
            Due.same("KNOWN by " + n, x.signs(0), due[n]);
        }
        MarkGuards y = Due.of("block p 3 0;block q 5 0;edge p p;");
        y.note(0, 1, true);
        y.strike(0);
        y.strike(0);
        y.strike(1);
        Due.same("of two that strike one is STRUCK", y.signs(0), 65535);
        y.strike(2);
        Due.same("both are", y.signs(0), 1);
        y.strike(4);
        Due.same("the later one strikes again", y.signs(0), 65535);
    }

    private static void signs() {
        Due.says("Part 3", "SIGNS of a BLOCK: 0 .. 15 (bits) in place of its own, by which all KNOWN ones are so.");
        for (int sign : new int[] {0, 1, 14, 15, 16, 255}) {
            // by b -> a into b MARK is SIGN of a: LOOKS RIGHT, if both are alike
            MarkGuards x = Due.of("block a 1 0;block b " + sign + " 0;edge a b;edge b a;");
            Due.same("no NOTES: all sixteen", x.signs(0), 65535);
            x.note(1, 1, true);
            Due.same("a as b, " + sign, x.signs(0), sign < 16 ? 1 << sign : 0);
            Due.same("b as a, 1", x.signs(1), 2);
            x.strike(0);
            x.note(1, 1, false);
            Due.same("a not as b, " + sign, x.signs(0), sign < 16 ? 65535 - (1 << sign) : 65535);
            x.note(1, 1, true);
            Due.same("both can't be", x.signs(0), 0);
        }
    }

    private static void ask(String text, int block, int edge, int goal, int left) {
        MarkGuards x = Due.of(text);
        Due.same(text + " the EDGE", x.ask(block, 0), edge);
        Due.same(text + " the BLOCK", x.ask(block, 1), goal);
        Due.same(text + " left", x.ask(block, 2), left);
    }

    private static void asking() {
        Due.says("Part 3", "ASK of a BLOCK: the SLIP, the first by EDGES, then by BLOCKS, of which, if one asks what MARK it "
            + "makes, each MARK an answer, so that as few of SIGNS as may be are left at worst");
        // b has no BASE: by b -> a into c MARK is b ^ c, so each SIGN of b makes another one
        ask("block a 1 0;block b 2 0;block c 4 0;edge a b;edge b a;", 2, 0, 2, 1);
        // by a -> b into a MARK is a ^ b ^ a: SIGN of b alone
        ask("block a 1 0;block b 2 0;edge a b;edge b a;", 1, 0, 0, 1);
        ask("block a 1 0;block b 2 0;edge a b;edge b a;", 0, 1, 1, 1);
        // no SLIP tells SIGN of a: the first one, all are left
        ask("block a 1 0;block b 2 0;edge a b;", 0, 0, 0, 16);
        Due.says("Part 3", "(the first SLIP and 0, if there are none).");
        MarkGuards x = Due.of("block a 1 0;block b 2 0;edge a b;edge b a;");
        x.note(1, 1, true);
        Due.same("one is left", x.ask(0, 2), 1);
        Due.same("the first SLIP will do", x.ask(0, 0) * 10 + x.ask(0, 1), 0);
        x.note(1, 1, false);
        Due.same("none: the EDGE", x.ask(0, 0), 0);
        Due.same("none: the BLOCK", x.ask(0, 1), 0);
        Due.same("none: 0", x.ask(0, 2), 0);
        MarkGuards y = Due.of("block a 1 0;block b 2 0;edge a a;edge b b;");
        y.note(0, 1, true);
        y.note(0, 1, false);
        Due.same("the first SLIP isn't into a", y.ask(0, 0) * 10 + y.ask(0, 1), 1);
    }

    private static void tried() {
        Due.says("Part 3", "TRIED for n STEPS as it goes: TOTAL more: 0 no JUMPS,");
        String jumping = "block a 1 5;block b 2 7;block c 4 9;edge a b;edge b b;edge c c;jump 100;check c;";
        Due.same("no JUMPS", Due.of(jumping).tried(0, 0, 3), 21);
        Due.same("as it goes", Due.of(jumping).ahead(3, 2), 27);
        Due.says("Part 3", "1 no CHECKS,");
        // a lands in c, which alarms; without CHECKS c lands in b
        String checked = jumping + "law land 2-place/2;";
        Due.same("with CHECKS", Due.of(checked).ahead(2, 2), 18);
        Due.same("no CHECKS", Due.of(checked).tried(1, 0, 2), 16);
        for (int what : new int[] {2, 3, 4}) {
            Due.same("with CHECKS, tried(" + what + ", 0, 2)", Due.of(checked).tried(what, 0, 2), 18);
        }
        MarkGuards x = Due.of("block a 1 5;block b 2 7;edge a b;edge b a;check a;law out mark;");
        x.jump(1);
        x.jump(1);
        Due.same("MARK is wrong", x.count(6), 1);
        Due.same("the ENTRY alarms: MARK is 2, then b's SIGN", x.ahead(2, 2), 4);
        Due.same("it has no CHECK: MARK is 2, then 1", x.tried(1, 0, 2), 3);
        Due.says("Part 3", "2 BLOCK i has WORK 0 (work, too),");
        Due.same("b has", Due.of(THREE).tried(2, 1, 2), 9);
        Due.same("c has", Due.of(THREE).tried(2, 2, 2), 7);
        Due.same("work is 0", Due.of(THREE + "law out work*10+1;").tried(2, 1, 2), 1 + 91);
        Due.same("work of turn is 0", Due.of(THREE + "law turn work=5;").tried(2, 0, 1), 7);
        Due.same("work of land is 0", Due.of(THREE + "jump 100;law land work;").tried(2, 0, 1), 0);
        Due.same("WORK with an ERROR is 0", Due.of(THREE + "law out 1/0;").tried(2, 1, 2), 9);
        Due.says("Part 3", "3 each STEP from a BLOCK with EDGES is a JUMP (landing as it goes),");
        Due.same("to the last BLOCK", Due.of(THREE).tried(3, 0, 3), 27);
        Due.same("by E of land", Due.of(THREE + "law land 1;").tried(3, 0, 3), 21);
        Due.same("jump 0", Due.of(THREE + "jump 0;law land 1;").tried(3, 0, 3), 21);
        Due.same("not from one without EDGES", Due.of("block a 1 5;block b 2 7;edge a a;").tried(3, 0, 4), 14);
        Due.says("Part 3", "4 each EDGE taken is the first one.");
        Due.same("the first", Due.of(THREE).tried(4, 0, 6), 7 + 9 + 5 + 7 + 9 + 5);
        Due.same("as it goes", Due.of(THREE).ahead(6, 2), 7 + 9 + 5 + 9 + 5 + 7);
        Due.same("whatever turn says", Due.of(THREE + "law turn 1;").tried(4, 0, 2), 16);
    }

    private static void undoing() {
        Due.says("Part 4", "Jumping, checking, signing by call (all that comes of it) can be undone, the latest first "
            + "(20 at most), if no STEP went by since.");
        MarkGuards x = Due.of(THREE + "check c;");
        Due.same("nothing yet", x.undo(), -1);
        x.sign(2, 99);
        x.check(1);
        Due.same("an ALARM in c", x.jump(2), true);
        Due.same("an ALARM in c", x.jump(2), false);
        Due.same("TOTAL", x.count(8), 18);
        Due.same("undo the ALARM", x.undo(), 3);
        Due.same("ALARMS", x.count(9), 0);
        Due.same("JUMPS", x.count(10), 1);
        Due.same("TOTAL", x.count(8), 9);
        Due.same("VISITS", x.block(2, 3), 1);
        Due.same("the BLOCK", x.count(5), 2);
        Due.same("MARK", x.count(6), 99);
        Due.same("undo the jump", x.undo(), 2);
        Due.same("JUMPS", x.count(10), 0);
        Due.same("undo the CHECK", x.undo(), 1);
        Due.same("CHECKS", x.count(2), 1);
        Due.same("undo the SIGN", x.undo(), 0);
        Due.same("SIGN", x.block(2, 0), 4);
        Due.same("nothing more", x.undo(), -1);
        twentyAtMost();
        x.check(0);
        x.go(0);
        Due.same("no STEP by go(0)", x.count(14), 1);
        x.go(1);
        Due.same("a STEP went by", x.count(14), 0);
        Due.same("a STEP went by", x.undo(), -1);
        x.check(0);
        Due.same("since", x.undo(), 0);
    }

    private static void twentyAtMost() {
        for (int calls = 19; calls <= 42; calls++) {
            MarkGuards x = Due.of(THREE);
            for (int i = 1; i <= calls; i++) {
                x.sign(0, 100 + i);
            }
            int most = Math.min(calls, 20);
            Due.same("behind " + calls + " calls", x.count(14), most);
            for (int left = most - 1; left >= 0; left--) {
                Due.same("behind " + calls + " calls undo", x.undo(), left);
            }
            Due.same("behind " + calls + " calls no more", x.undo(), -1);
            Due.same("the oldest that is left", x.block(0, 0), calls <= 20 ? 1 : 100 + calls - 20);
        }
    }

    private static void image() {
        Due.says("Part 4", "An IMAGE keeps all but NOTES.");
        MarkGuards x = Due.of(THREE + "check c;jump 50;seed 9;");
        x.go(9);
        x.sign(1, 77);
        x.check(0);
        x.jump(1);
        int[] kept = new int[15];
        for (int what = 0; what < 15; what++) {
            kept[what] = x.count(what);
        }
        int visits = x.block(1, 3);
        x.keep();
        x.go(20);
        int then = x.count(8) * 100 + x.count(10);
        x.sign(1, 5);
        x.check(0);
        x.check(1);
        x.jump(2);
        x.note(0, 0, true);
        x.back();
        for (int what = 0; what < 12; what++) {
            Due.same("count(" + what + ")", x.count(what), kept[what]);
        }
        Due.same("the NOTE stays", x.count(12), 1);
        Due.same("SIGN", x.block(1, 0), 77);
        Due.same("CHECKS", x.block(0, 2) * 10 + x.block(1, 2), 10);
        Due.same("VISITS", x.block(1, 3), visits);
        x.go(20);
        Due.same("numbers go on from there", x.count(8) * 100 + x.count(10), then);
    }
}
