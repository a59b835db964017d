/** Promises 17 to 31, sentence by sentence: what is asked of SLIPS and EDGES, at its bounds, and what is refused. */
public final class Promises17To31Test {
    private static final int MOST = Integer.MAX_VALUE;
    private static final int LEAST = Integer.MIN_VALUE;
    /** Of three BLOCKS; 32 to 34 are 0 to 2, if only five bits of them count. */
    private static final int[] NO_BLOCKS = {-1, 3, 4, 7, 8, 31, 32, 33, 34, 64, 256, MOST, LEAST, LEAST + 1};
    /** Of four EDGES. */
    private static final int[] NO_EDGES = {-1, 4, 5, 15, 16, 32, 33, 256, MOST, LEAST, LEAST + 1};
    private static final String THREE = "block a 1 5;block b 2 7;block c 4 9;edge a b;edge a c;edge b c;edge c a;";
    private static final String EIGHT = "block a 1 1;block b 2 2;block c 3 3;block d 4 4;block e 5 5;block f 6 6;block g 7 7;"
        + "block h 8 8;";
    private static final String CHAIN = EIGHT + "edge a b;edge b c;edge c d;edge d e;edge e f;edge f g;edge g h;";
    private static final String FULL = full();

    /** A call by an EDGE and a BLOCK. */
    private interface OfSlip {
        int of(MarkGuards x, int edge, int block);
    }

    public static void main(String[] args) {
        slip();
        caught();
        soonest();
        beyond();
        cover();
        checks();
        bases();
        only();
        far();
        ring();
        nearest();
        leaders();
        leadersRefused();
        holds();
        ways();
        alike();
        Due.finish();
    }

    /** Eight BLOCKS, sixteen EDGES, a CHECK in each BLOCK. */
    private static String full() {
        StringBuilder text = new StringBuilder(EIGHT);
        for (int e = 0; e < 16; e++) {
            text.append("edge ").append((char) ('a' + e / 2)).append(' ').append((char) ('g' + e % 2)).append(';');
        }
        for (int b = 0; b < 8; b++) {
            text.append("check ").append((char) ('a' + b)).append(';');
        }
        return text.toString();
    }

    /** No such EDGE, no such BLOCK, or where the EDGE leads. */
    private static void refusesSlips(String call, OfSlip f) {
        Twin.refuses(call + "(.., 0)", -1, (x, n) -> f.of(x, n, 0), NO_EDGES);
        Twin.refuses(call + "(.., 2)", -1, (x, n) -> f.of(x, n, 2), NO_EDGES);
        Twin.refuses(call + "(0, ..)", -1, (x, n) -> f.of(x, 0, n), NO_BLOCKS);
        Twin.refuses(call + "(3, ..)", -1, (x, n) -> f.of(x, 3, n), NO_BLOCKS);
        // to where the EDGES lead
        int[] goals = {1, 2, 2, 0};
        Twin.refuses(call + " to where the EDGE leads", -1, (x, n) -> f.of(x, n, goals[n]), 0, 1, 2, 3);
        MarkGuards full = Due.of(FULL);
        Due.same(call + " of the last EDGE to the seventh BLOCK", f.of(full, 15, 6) != -1, true);
        Due.same(call + " of the last EDGE to where it leads", f.of(full, 15, 7), -1);
        Due.same(call + " of a seventeenth EDGE", f.of(full, 16, 6), -1);
        Due.same(call + " to a ninth BLOCK", f.of(full, 15, 8), -1);
        Due.same(call + " of neither", f.of(full, 16, 8), -1);
        Due.same(call + " without BLOCKS", f.of(new MarkGuards(), 0, 0), -1);
        Due.same(call + " without EDGES", f.of(Due.of(EIGHT), 0, 0), -1);
        Due.same(call + " of one BLOCK", f.of(Due.of("block a 1 1;edge a a;"), 0, 0), -1);
    }

    private static void slip() {
        Due.says("Promise 17", "SLIP; NONE: no such ones.");
        MarkGuards x = Due.of(THREE);
        Due.same("slip(0, 0)", x.slip(0, 0), 4);
        Due.same("slip(3, 2)", x.slip(3, 2), 1);
        x.sign(0, 255);
        Due.same("SIGNS now", x.slip(2, 1), 255);
        Due.same("0", Due.of("block a 0 0;block b 0 0;edge a a;").slip(0, 1), 0);
        refusesSlips("slip", MarkGuards::slip);
    }

    private static void caught() {
        Due.says("Promise 18", "CAUGHT; -2: never; NONE: no such SLIP.");
        MarkGuards x = Due.of(CHAIN + "check h;");
        Due.same("at once", x.caught(0, 7), 1);
        Due.same("the longest", x.caught(6, 0), 8);
        x.check(7);
        Due.same("no CHECK now", x.caught(6, 0), -2);
        x.check(0);
        Due.same("a CHECK now", x.caught(6, 0), 1);
        x.sign(6, 0);
        Due.same("LOOKS RIGHT now", x.caught(6, 0), -2);
        refusesSlips("caught", MarkGuards::caught);
    }

    private static void soonest() {
        Due.says("Promise 19", "SOONEST; -2: never; NONE: no such SLIP.");
        MarkGuards x = Due.of(CHAIN + "check h;");
        Due.same("at once", x.soonest(0, 7), 1);
        Due.same("the longest", x.soonest(6, 0), 8);
        x.check(7);
        Due.same("no CHECK now", x.soonest(6, 0), -2);
        x.check(0);
        Due.same("a CHECK now", x.soonest(6, 0), 1);
        x.sign(6, 0);
        Due.same("LOOKS RIGHT now", x.soonest(6, 0), -2);
        refusesSlips("soonest", MarkGuards::soonest);
    }

    private static void beyond() {
        Due.says("Promise 20", "BEYOND; NONE: no such SLIP.");
        MarkGuards x = Due.of(CHAIN + "check b;");
        Due.same("landing alone", x.beyond(0, 7), 1);
        Due.same("ALARMED in b", x.beyond(6, 0), 2);
        x.check(1);
        Due.same("no CHECK now", x.beyond(6, 0), 8);
        x.check(0);
        Due.same("ALARMED at once now", x.beyond(6, 0), 1);
        x.sign(6, 0);
        Due.same("LOOKS RIGHT now", x.beyond(6, 0), 8);
        StringBuilder net = new StringBuilder("block a 1 0;block b 2 0;block c 4 0;block d 8 0;block e 16 0;");
        String[] edges = {"aa", "ab", "ac", "ba", "bb", "bd", "ca", "cb", "ce", "da", "db", "dc", "ea", "eb", "ed"};
        for (String e : edges) {
            net.append("edge ").append(e.charAt(0)).append(' ').append(e.charAt(1)).append(';');
        }
        // each EDGE makes a STATE of its own; by a -> b into a the STATE of landing is that of a -> a
        Due.same("a STATE by each EDGE", Due.of(net.toString()).beyond(1, 0), 15);
        refusesSlips("beyond", MarkGuards::beyond);
    }

    private static void cover() {
        Due.says("Promise 21", "COVER, what 0 how many SLIPS, 1 LOOK RIGHT, 2 are CAUGHT in limit, 3 never.");
        MarkGuards x = Due.of(THREE + "check c;limit 2;");
        int[] due = {8, 2, 3, 2};
        for (int what = 0; what < 4; what++) {
            Due.same("cover(" + what + ")", x.cover(what), due[what]);
        }
        x.check(2);
        Due.same("no CHECK now", x.cover(3), 8);
        x.check(0);
        x.check(1);
        x.check(2);
        Due.same("CHECKS in all now", x.cover(2), 6);
        x.sign(1, 1);
        x.sign(2, 1);
        Due.same("SIGNS alike now", x.cover(1), 8);
        Due.same("none is CAUGHT", x.cover(2), 0);
        MarkGuards none = new MarkGuards();
        for (int what = 0; what < 4; what++) {
            Due.same("without BLOCKS cover(" + what + ")", none.cover(what), 0);
        }
        Due.same("full", Due.of(FULL).cover(0), 112);
        Due.says("Promise 21", "NONE for another what.");
        Twin.refuses("cover", -1, MarkGuards::cover, -1, 4, 5, 32, MOST, LEAST);
        Due.same("without BLOCKS", none.cover(4), -1);
    }

    private static void checks() {
        Due.says("Promise 22", "CHECKS, what 0: BLOCKS (bits), 1: how many SLIPS are CAUGHT in limit by these.");
        MarkGuards x = Due.of(THREE + "limit 2;");
        Due.same("BLOCKS", x.checks(0), 3);
        Due.same("SLIPS", x.checks(1), 6);
        Due.same("CHECKS stay", x.count(2), 0);
        x.sign(1, 1);
        x.sign(2, 1);
        Due.same("SIGNS alike now: none", x.checks(0), 0);
        Due.same("SIGNS alike now: no SLIPS", x.checks(1), 0);
        Due.same("without BLOCKS", new MarkGuards().checks(0) + new MarkGuards().checks(1), 0);
        Due.same("all eight", Due.of(CHAIN + "edge h a;limit 1;").checks(0), 255);
        Due.same("limit 40, one", Due.of(CHAIN + "edge h a;limit 40;").checks(0), 1);
        Due.says("Promise 22", "NONE for another what.");
        Twin.refuses("checks", -1, MarkGuards::checks, -1, 2, 3, 32, MOST, LEAST);
        Due.same("without BLOCKS", new MarkGuards().checks(2), -1);
    }

    private static void bases() {
        Due.says("Promise 23", "BASES.");
        MarkGuards x = Due.of(THREE);
        Due.same("THREE", x.bases(), 1);
        Due.same("BASE stays", x.base(2), 0);
        x.sign(1, 1);
        x.sign(2, 1);
        Due.same("SIGNS alike now", x.bases(), 8);
        Due.same("without BLOCKS", new MarkGuards().bases(), 0);
        Due.same("one BLOCK", Due.of("block a 1 1;edge a a;").bases(), 0);
        Twin.refuses("bases, a look", 1, (y, n) -> y.bases() >= 0 ? 1 : 0, 0, 1);
    }

    private static void only() {
        Due.says("Promise 24", "ONLY (bits; 0: no way leads there); NONE: no such BLOCK.");
        MarkGuards x = Due.of(CHAIN);
        Due.same("the ENTRY", x.only(0), 1);
        Due.same("all", x.only(7), 255);
        Due.same("no way", Due.of(EIGHT).only(7), 0);
        Due.same("the ninth", x.only(8), -1);
        Twin.refuses("only", -1, MarkGuards::only, NO_BLOCKS);
        Due.same("without BLOCKS", new MarkGuards().only(0), -1);
    }

    private static void far() {
        Due.says("Promise 25", "FAR (0: alike); -2: no way leads there; NONE: no such BLOCKS.");
        MarkGuards x = Due.of(CHAIN);
        for (int b = 0; b < 8; b++) {
            Due.same("alike", x.far(b, b), 0);
            Due.same("from the first", x.far(0, b), b);
            Due.same("to the first", x.far(b, 0), b == 0 ? 0 : -2);
        }
        Due.same("to a ninth", x.far(0, 8), -1);
        Due.same("from a ninth", x.far(8, 0), -1);
        Due.same("a ninth, alike", x.far(8, 8), -1);
        Twin.refuses("far(.., 0)", -1, (y, n) -> y.far(n, 0), NO_BLOCKS);
        Twin.refuses("far(0, ..)", -1, (y, n) -> y.far(0, n), NO_BLOCKS);
        Twin.refuses("far(.., ..)", -1, (y, n) -> y.far(n, n), NO_BLOCKS);
        Due.same("without BLOCKS", new MarkGuards().far(0, 0), -1);
    }

    private static void ring() {
        Due.says("Promise 26", "RING (bits); NONE: no such BLOCK.");
        Due.same("the first alone", Due.of(CHAIN).ring(0), 1);
        Due.same("the last alone", Due.of(CHAIN).ring(7), 128);
        Due.same("all", Due.of(CHAIN + "edge h a;").ring(3), 255);
        Due.same("the ninth", Due.of(CHAIN).ring(8), -1);
        Twin.refuses("ring", -1, MarkGuards::ring, NO_BLOCKS);
        Due.same("without BLOCKS", new MarkGuards().ring(0), -1);
    }

    private static void nearest() {
        Due.says("Promise 27", "NEAREST; -2: there is none; NONE: no such BLOCK.");
        MarkGuards x = Due.of(CHAIN);
        Due.same("none", x.nearest(0), -2);
        x.check(7);
        for (int b = 0; b < 8; b++) {
            Due.same("now there is", x.nearest(b), 7 - b);
        }
        x.check(7);
        x.check(0);
        Due.same("it has", x.nearest(0), 0);
        Due.same("none ahead", x.nearest(1), -2);
        Due.same("the ninth", x.nearest(8), -1);
        Twin.refuses("nearest", -1, MarkGuards::nearest, NO_BLOCKS);
        Due.same("without BLOCKS", new MarkGuards().nearest(0), -1);
    }

    private static void leaders() {
        Due.says("Promise 28", "LEADERS, what 0: who wins (0: the first one, 1: the other one), 1: the EDGE by which the first one "
            + "begins, the first by which he wins (-2: he can't win, or has won already).");
        MarkGuards x = Due.of(CHAIN + "check h;");
        Due.same("he wins", x.leaders(0, 7, 0), 0);
        Due.same("by a -> b", x.leaders(0, 7, 1), 0);
        Due.same("the other one", x.leaders(0, 6, 0), 1);
        Due.same("he can't win", x.leaders(0, 6, 1), -2);
        Due.same("he has won, 0 EDGES", x.leaders(7, 0, 0), 0);
        Due.same("already, 0 EDGES", x.leaders(7, 0, 1), -2);
        Due.same("already, 9 EDGES", x.leaders(7, 9, 1), -2);
        Due.same("0 EDGES", x.leaders(6, 0, 0), 1);
        Due.same("0 EDGES, none", x.leaders(6, 0, 1), -2);
        x.check(7);
        Due.same("no CHECK now", x.leaders(0, 9, 0), 1);
        MarkGuards y = Due.of(THREE + "check b;check c;");
        Due.same("the first of two", y.leaders(0, 1, 1), 0);
        y.check(1);
        Due.same("the second one now", y.leaders(0, 1, 1), 1);
        Due.same("the first again, if two may be taken", y.leaders(0, 2, 1), 0);
        y.check(0);
        Due.same("a CHECK already, EDGES to others", y.leaders(0, 9, 1), -2);
        Due.same("no EDGES", Due.of(EIGHT + "check h;").leaders(0, 9, 1), -2);
        MarkGuards last = Due.of(EIGHT + "edge h a;edge h b;edge h c;check c;");
        Due.same("the third of three", last.leaders(7, 1, 1), 2);
    }

    private static void leadersRefused() {
        Due.says("Promise 28", "NONE: no such ones.");
        Twin.refuses("leaders(.., 0, 0)", -1, (y, n) -> y.leaders(n, 0, 0), NO_BLOCKS);
        Twin.refuses("leaders(.., 9, 1)", -1, (y, n) -> y.leaders(n, 9, 1), NO_BLOCKS);
        Twin.refuses("leaders(0, .., 0)", -1, (y, n) -> y.leaders(0, n, 0), -1, 10, 11, 32, MOST, LEAST);
        Twin.refuses("leaders(2, .., 1)", -1, (y, n) -> y.leaders(2, n, 1), -1, 10, 11, 32, MOST, LEAST);
        Twin.refuses("leaders(0, 0, ..)", -1, (y, n) -> y.leaders(0, 0, n), -1, 2, 3, 32, MOST, LEAST);
        Twin.refuses("leaders(2, 9, ..)", -1, (y, n) -> y.leaders(2, 9, n), -1, 2, 3, 32, MOST, LEAST);
        Due.same("the ninth", Due.of(CHAIN).leaders(8, 0, 0), -1);
        Due.same("without BLOCKS", new MarkGuards().leaders(0, 0, 0), -1);
    }

    private static void holds() {
        Due.says("Promise 29", "HOLDS (n 0 .. 6) in least terms, what 0: the number above, 1: the one below.");
        for (int jump = 0; jump <= 100; jump++) {
            MarkGuards x = Due.of("jump " + jump + ";");
            long above = 100 - jump;
            long below = 100;
            for (long d = 100; d > 1; d--) {
                if (above % d == 0 && below % d == 0) {
                    above /= d;
                    below /= d;
                }
            }
            long a = 1;
            long b = 1;
            for (int n = 0; n <= 6; n++) {
                Due.same("jump " + jump + " holds(" + n + ", 0)", x.holds(n, 0), a);
                Due.same("jump " + jump + " holds(" + n + ", 1)", x.holds(n, 1), b);
                a *= above;
                b *= below;
            }
        }
        Due.says("Promise 29", "NONE: no such ones.");
        Twin.refuses("holds(.., 0)", -1, (y, n) -> y.holds(n, 0), -1, 7, 8, 32, MOST, LEAST);
        Twin.refuses("holds(.., 1)", -1, (y, n) -> y.holds(n, 1), -1, 7, 8, 32, MOST, LEAST);
        Twin.refuses("holds(0, ..)", -1, (y, n) -> y.holds(0, n), -1, 2, 3, 32, MOST, LEAST);
        Twin.refuses("holds(6, ..)", -1, (y, n) -> y.holds(6, n), -1, 2, 3, 32, MOST, LEAST);
        Due.same("of a new object", new MarkGuards().holds(7, 0), -1);
    }

    private static void ways() {
        Due.says("Promise 30", "WAYS; NONE: no such ones.");
        MarkGuards x = Due.of(CHAIN + "edge h a;");
        for (int n = 0; n <= 9; n++) {
            for (int b = 0; b < 8; b++) {
                Due.same("ways(" + b + ", " + n + ")", x.ways(b, n), n % 8 == b ? 1 : 0);
            }
        }
        Due.same("the ninth", x.ways(8, 0), -1);
        Twin.refuses("ways(.., 0)", -1, (y, n) -> y.ways(n, 0), NO_BLOCKS);
        Twin.refuses("ways(.., 9)", -1, (y, n) -> y.ways(n, 9), NO_BLOCKS);
        Twin.refuses("ways(0, ..)", -1, (y, n) -> y.ways(0, n), -1, 10, 11, 32, MOST, LEAST);
        Twin.refuses("ways(2, ..)", -1, (y, n) -> y.ways(2, n), -1, 10, 11, 32, MOST, LEAST);
        Due.same("without BLOCKS", new MarkGuards().ways(0, 0), -1);
    }

    private static void alike() {
        Due.says("Promise 31", "ALIKE.");
        MarkGuards x = Due.of(EIGHT);
        int[] due = {0, 1, 3, 6, 10, 15, 21, 28};
        for (int b = 0; b < 8; b++) {
            x.sign(b, 1);
            Due.same("SIGNS alike now: " + (b + 1), x.alike(), due[b]);
        }
        Due.same("without BLOCKS", new MarkGuards().alike(), 0);
        Twin.refuses("alike, a look", 1, (y, n) -> y.alike() >= 0 ? 1 : 0, 0, 1);
    }
}
