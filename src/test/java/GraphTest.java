/** Promises 24 to 31: only, far, ring, nearest, leaders, holds, ways, alike. */
public final class GraphTest {
    private static final String SIX = "block a 1 0;block b 1 0;block c 2 0;block d 3 0;block e 3 0;block f 3 0;"
        + "edge a b;edge a c;edge b d;edge c d;edge d e;edge e d;edge f a;check e;";

    public static void main(String[] args) {
        only();
        far();
        ring();
        nearest();
        leaders();
        holds();
        ways();
        alike();
        wrongInputs();
        Due.finish();
    }

    private static void only() {
        MarkGuards x = Due.of(SIX);
        int[] due = {1, 3, 5, 9, 25, 0};
        for (int b = 0; b < 6; b++) {
            Due.same("only(" + b + ")", x.only(b), due[b]);
        }
        Due.same("a ring back to the ENTRY", Due.of("block a 1 0;block b 1 0;edge a b;edge b a;").only(0), 1);
    }

    private static void far() {
        MarkGuards x = Due.of(SIX);
        Due.same("far(0, 4)", x.far(0, 4), 3);
        Due.same("far(5, 4)", x.far(5, 4), 4);
        Due.same("far(4, 0)", x.far(4, 0), -2);
        Due.same("far(3, 3), alike", x.far(3, 3), 0);
        Due.same("far(0, 5)", x.far(0, 5), -2);
        StringBuilder line = new StringBuilder();
        for (int b = 0; b < 8; b++) {
            line.append("block ").append((char) ('a' + b)).append(" 1 0;");
        }
        for (int b = 0; b < 7; b++) {
            line.append("edge ").append((char) ('a' + b)).append(' ').append((char) ('b' + b)).append(';');
        }
        Due.same("far(0, 7), seven EDGES", Due.of(line.toString()).far(0, 7), 7);
        Due.same("far(7, 0)", Due.of(line.toString()).far(7, 0), -2);
    }

    private static void ring() {
        MarkGuards x = Due.of(SIX);
        int[] due = {1, 2, 4, 24, 24, 32};
        for (int b = 0; b < 6; b++) {
            Due.same("ring(" + b + ")", x.ring(b), due[b]);
        }
    }

    private static void nearest() {
        MarkGuards x = Due.of(SIX);
        int[] due = {3, 2, 2, 1, 0, 4};
        for (int b = 0; b < 6; b++) {
            Due.same("nearest(" + b + ")", x.nearest(b), due[b]);
        }
        x.check(4);
        x.check(1);
        Due.same("CHECKS now: nearest(0)", x.nearest(0), 1);
        Due.same("there is none: nearest(3)", x.nearest(3), -2);
    }

    private static void leaders() {
        MarkGuards x = Due.of(SIX);
        Due.same("three EDGES lead there", x.leaders(0, 3, 0), 0);
        Due.same("the first one begins by b", x.leaders(0, 3, 1), 0);
        Due.same("two don't", x.leaders(0, 2, 0), 1);
        Due.same("he can't win", x.leaders(0, 2, 1), -2);
        Due.same("one EDGE", x.leaders(3, 1, 0), 0);
        Due.same("d to e", x.leaders(3, 1, 1), 4);
        Due.same("won at once", x.leaders(4, 0, 0), 0);
        Due.same("won already", x.leaders(4, 5, 1), -2);
        Due.same("none may be taken", x.leaders(3, 0, 0), 1);
        Due.same("none may be taken, no EDGE", x.leaders(3, 0, 1), -2);
        Due.same("nine", x.leaders(5, 9, 0), 0);
        String game = "block a 1 0;block b 1 0;block c 1 0;block d 1 0;block e 1 0;edge a b;edge a e;edge b c;edge b d;"
            + "edge e c;check c;";
        Due.same("the other one leads from b to d, but from e to c", Due.of(game).leaders(0, 2, 1), 1);
        Due.same("from b the first one takes c", Due.of(game).leaders(1, 1, 1), 2);
        Due.same("with a CHECK in d, b will do", Due.of(game + "check d;").leaders(0, 2, 1), 0);
        Due.same("no EDGE leads on from d", Due.of(game).leaders(3, 9, 0), 1);
        Due.same("who ends without, loses", Due.of("block a 1 0;block b 1 0;edge a b;").leaders(0, 9, 0), 1);
        x.check(1);
        Due.same("CHECKS now", x.leaders(0, 1, 1), 0);
    }

    private static void fraction(String jump, int n, long above, long below) {
        MarkGuards x = Due.of(jump);
        Due.same(jump + " holds(" + n + ", 0)", x.holds(n, 0), above);
        Due.same(jump + " holds(" + n + ", 1)", x.holds(n, 1), below);
    }

    private static void holds() {
        fraction("", 6, 1, 1);
        fraction("jump 0;", 3, 1, 1);
        fraction("jump 25;", 0, 1, 1);
        fraction("jump 25;", 1, 3, 4);
        fraction("jump 25;", 2, 9, 16);
        fraction("jump 25;", 6, 729, 4096);
        fraction("jump 1;", 6, 941480149401L, 1000000000000L);
        fraction("jump 99;", 6, 1, 1000000000000L);
        fraction("jump 60;block a 1 1;", 3, 8, 125);
        fraction("jump 100;", 0, 1, 1);
        fraction("jump 100;", 1, 0, 1);
        fraction("jump 100;", 6, 0, 1);
    }

    private static void ways() {
        MarkGuards x = Due.of(SIX);
        Due.same("ways(0, 0)", x.ways(0, 0), 1);
        Due.same("ways(1, 0)", x.ways(1, 0), 0);
        Due.same("ways(1, 1)", x.ways(1, 1), 1);
        Due.same("ways(3, 2)", x.ways(3, 2), 2);
        Due.same("ways(4, 3)", x.ways(4, 3), 2);
        Due.same("ways(4, 2)", x.ways(4, 2), 0);
        Due.same("ways(4, 9)", x.ways(4, 9), 2);
        Due.same("ways(5, 3)", x.ways(5, 3), 0);
        MarkGuards all = Due.of("block a 1 0;block b 1 0;block c 1 0;edge a a;edge a b;edge a c;edge b a;edge b b;"
            + "edge b c;edge c a;edge c b;edge c c;");
        Due.same("three to the eighth", all.ways(2, 9), 6561);
    }

    private static void alike() {
        MarkGuards x = Due.of(SIX);
        Due.same("alike", x.alike(), 4);
        x.sign(5, 1);
        Due.same("SIGNS now", x.alike(), 4);
        x.sign(2, 1);
        Due.same("four alike, two alike", x.alike(), 7);
        Due.same("without BLOCKS", new MarkGuards().alike(), 0);
    }

    private static void wrongInputs() {
        MarkGuards x = Due.of(SIX);
        for (int b : new int[] {-1, 6, 8, Integer.MAX_VALUE, Integer.MIN_VALUE}) {
            Due.same("only", x.only(b), -1);
            Due.same("far from", x.far(b, 0), -1);
            Due.same("far to", x.far(0, b), -1);
            Due.same("ring", x.ring(b), -1);
            Due.same("nearest", x.nearest(b), -1);
            Due.same("leaders", x.leaders(b, 0, 0), -1);
            Due.same("ways", x.ways(b, 0), -1);
        }
        for (int n : new int[] {-1, 10, Integer.MAX_VALUE}) {
            Due.same("leaders(0, n, 0)", x.leaders(0, n, 0), -1);
            Due.same("ways(0, n)", x.ways(0, n), -1);
            Due.same("holds(n, 0)", x.holds(n, 0), -1);
        }
        Due.same("holds(7, 0)", x.holds(7, 0), -1);
        for (int what : new int[] {-1, 2, Integer.MAX_VALUE}) {
            Due.same("leaders(0, 0, what)", x.leaders(0, 0, what), -1);
            Due.same("holds(0, what)", x.holds(0, what), -1);
        }
        MarkGuards none = new MarkGuards();
        Due.same("without BLOCKS", none.only(0) + none.ring(0) + none.far(0, 0) + none.ways(0, 0), -4);
    }
}
