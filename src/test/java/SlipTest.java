/** Promises 17 to 23: slip, caught, soonest, beyond, cover, checks, bases. */
public final class SlipTest {
    private static final String THREE = "block a 1 5;block b 2 7;block c 4 9;edge a b;edge a c;edge b c;edge c a;";
    private static final String ROUND = "block a 1 0;block b 2 0;block c 4 0;edge a b;edge b c;edge c a;";

    public static void main(String[] args) {
        slips();
        caught();
        soonest();
        beyond();
        cover();
        checks();
        bases();
        wrongInputs();
        Due.finish();
    }

    private static void slips() {
        MarkGuards x = Due.of(THREE);
        int[][] due = {{4, -1, 4}, {4, 2, -1}, {7, 1, -1}, {-1, 7, 1}};
        for (int e = 0; e < 4; e++) {
            for (int b = 0; b < 3; b++) {
                Due.same("slip(" + e + ", " + b + ")", x.slip(e, b), due[e][b]);
            }
        }
        x.sign(0, 16);
        Due.same("by SIGNS now: 2 and DIFF 4, 16", x.slip(2, 0), 2 ^ 4 ^ 16);
        Due.same("MARK now doesn't matter", x.slip(0, 0), 16 ^ 4 ^ 16);
        MarkGuards y = Due.of("block a 1 0;block b 2 0;block c 4 0;block d 8 0;edge a c;edge b c;edge c d;edge c a;edge d d;");
        Due.same("into a JOIN, adjusted by the EDGE", y.slip(1, 3), 2 ^ (4 ^ 8) ^ (1 ^ 2));
        Due.same("into a JOIN, ADJUST 0 of an EDGE to none", y.slip(3, 2), 4 ^ (1 ^ 4) ^ 0);
        Due.same("into none, ADJUST doesn't count", y.slip(1, 0), 2 ^ (4 ^ 1));
        Due.same("into one without BASE", y.slip(0, 1), 1 ^ 2);
        Due.same("a ring", y.slip(4, 2), 8 ^ (1 ^ 4) ^ (4 ^ 8));
    }

    private static void caught() {
        MarkGuards x = Due.of(THREE + "check c;");
        Due.same("in c at once", x.caught(3, 2), 1);
        Due.same("in b, then c", x.caught(3, 1), 2);
        Due.same("in a, b, c at most", x.caught(0, 0), 3);
        Due.same("LOOKS RIGHT: never", x.caught(0, 2), -2);
        x.check(2);
        Due.same("no CHECKS: never", x.caught(3, 2), -2);
        x.check(1);
        Due.same("round without b: never", x.caught(2, 0), -2);
        Due.same("in b at once", x.caught(3, 1), 1);
        MarkGuards end = Due.of("block a 1 0;block b 2 0;block c 4 0;block d 8 0;edge a b;edge b c;edge b d;edge a a;check c;");
        Due.same("d has no EDGES: never", end.caught(1, 1), -2);
        Due.same("in d: never", end.caught(0, 3), -2);
        end.check(3);
        Due.same("in d or c", end.caught(1, 1), 2);
        Due.same("b's BASE is a: LOOKS RIGHT", end.caught(3, 1), -2);
        MarkGuards loop = Due.of("block a 1 0;block b 2 0;edge a a;edge a b;edge b b;check b;");
        Due.same("round a for ever", loop.caught(2, 0), -2);
    }

    private static void soonest() {
        MarkGuards x = Due.of(THREE + "check c;");
        Due.same("in c at once", x.soonest(3, 2), 1);
        Due.same("in a, c", x.soonest(0, 0), 2);
        Due.same("LOOKS RIGHT: never", x.soonest(0, 2), -2);
        x.check(2);
        Due.same("no CHECKS: never", x.soonest(3, 2), -2);
        MarkGuards end = Due.of("block a 1 0;block b 2 0;block c 4 0;block d 8 0;edge a b;edge b c;edge b d;edge a a;check c;");
        Due.same("b, c", end.soonest(1, 1), 2);
        Due.same("in d: never", end.soonest(0, 3), -2);
        MarkGuards loop = Due.of("block a 1 0;block b 2 0;edge a a;edge a b;edge b b;check b;");
        Due.same("a, b", loop.soonest(2, 0), 2);
    }

    private static void beyond() {
        MarkGuards x = Due.of(THREE + "check c;");
        Due.same("ALARMED at once", x.beyond(3, 2), 1);
        Due.same("b, c", x.beyond(3, 1), 2);
        Due.same("a, b, c by two ADJUSTS", x.beyond(0, 0), 4);
        Due.same("LOOKS RIGHT: gone on from c", x.beyond(0, 2), 4);
        x.check(2);
        Due.same("landed in b with ADJUST 0 as by its EDGE", x.beyond(3, 1), 4);
        Due.same("landed in b with another ADJUST", x.beyond(2, 1), 5);
        Due.same("landed without EDGES", Due.of("block a 1 0;block b 1 0;edge a a;").beyond(0, 1), 1);
    }

    private static void cover() {
        MarkGuards x = Due.of(THREE + "check c;limit 2;");
        int[] due = {8, 2, 3, 2};
        for (int what = 0; what < 4; what++) {
            Due.same("cover(" + what + ")", x.cover(what), due[what]);
        }
        Due.same("limit 3", Due.of(THREE + "check c;limit 3;").cover(2), 6);
        Due.same("limit 1", Due.of(THREE + "check c;limit 1;").cover(2), 1);
        Due.same("limit 10 without", Due.of(THREE + "check c;").cover(2), 6);
        Due.same("no CHECKS, none", Due.of(THREE).cover(2), 0);
        Due.same("no CHECKS, never", Due.of(THREE).cover(3), 8);
        x.sign(0, 2);
        x.sign(2, 2);
        Due.same("SIGNS alike: all LOOK RIGHT", x.cover(1), 8);
        Due.same("SIGNS alike: never", x.cover(3), 8);
        Due.same("one BLOCK has no SLIPS", Due.of("block a 1 0;edge a a;check a;").cover(0), 0);
        MarkGuards none = new MarkGuards();
        for (int what = 0; what < 4; what++) {
            Due.same("cover(" + what + ") without BLOCKS", none.cover(what), 0);
        }
    }

    private static void checks() {
        Due.same("limit 1: each BLOCK", Due.of(ROUND + "limit 1;").checks(0), 7);
        Due.same("limit 2: two, the least bits", Due.of(ROUND + "limit 2;").checks(0), 3);
        Due.same("limit 3: one, the least bit", Due.of(ROUND + "limit 3;").checks(0), 1);
        Due.same("its own CHECKS don't matter", Due.of(ROUND + "limit 3;check c;").checks(0), 1);
        Due.same("how many", Due.of(ROUND + "limit 3;").checks(1), 6);
        Due.same("THREE, limit 1", Due.of(THREE + "limit 1;").checks(0), 7);
        Due.same("THREE, limit 2", Due.of(THREE + "limit 2;").checks(0), 3);
        Due.same("THREE, how many", Due.of(THREE + "limit 2;").checks(1), 6);
        MarkGuards alike = Due.of("block a 1 0;block b 1 0;edge a b;edge b a;");
        Due.same("none will do", alike.checks(0), 0);
        Due.same("none are CAUGHT", alike.checks(1), 0);
        MarkGuards loop = Due.of("block a 1 0;block b 2 0;block c 7 0;edge a a;edge a b;edge b b;edge b c;limit 9;");
        Due.same("rings and ends need their own", loop.checks(0), 7);
        Due.same("without BLOCKS", new MarkGuards().checks(0), 0);
        Due.same("without BLOCKS, none", new MarkGuards().checks(1), 0);
    }

    private static void bases() {
        Due.same("THREE: c by b", Due.of(THREE).bases(), 1);
        Due.same("told ones don't matter", Due.of(THREE + "base c b;").bases(), 1);
        Due.same("as it is", Due.of(THREE + "base c b;").cover(1), 1);
        Due.same("no JOIN, no choice", Due.of(ROUND).bases(), 0);
        MarkGuards x = Due.of(THREE);
        x.sign(0, 2);
        x.sign(2, 2);
        Due.same("by SIGNS now", x.bases(), 8);
        Due.same("BASES stay", x.base(2), 0);
        Due.same("without BLOCKS", new MarkGuards().bases(), 0);
    }

    private static void wrongInputs() {
        MarkGuards x = Due.of(THREE + "check c;");
        int[][] wrong = {{-1, 0}, {4, 0}, {0, -1}, {0, 3}, {0, 1}, {3, 0}, {Integer.MAX_VALUE, 0}, {0, Integer.MIN_VALUE}};
        for (int[] w : wrong) {
            Due.same("slip", x.slip(w[0], w[1]), -1);
            Due.same("caught", x.caught(w[0], w[1]), -1);
            Due.same("soonest", x.soonest(w[0], w[1]), -1);
            Due.same("beyond", x.beyond(w[0], w[1]), -1);
        }
        for (int what : new int[] {-1, 4, Integer.MAX_VALUE}) {
            Due.same("cover(" + what + ")", x.cover(what), -1);
        }
        for (int what : new int[] {-1, 2, Integer.MAX_VALUE}) {
            Due.same("checks(" + what + ")", x.checks(what), -1);
        }
        Due.same("slip without BLOCKS", new MarkGuards().slip(0, 0), -1);
    }
}
