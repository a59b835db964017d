import java.util.NoSuchElementException;

/** Promises 6 to 10: block, edge, base, diff, law. */
public final class ProgramTest {
    private static final String FOUR = "block a 1 5;block b 2 7;block c 4 9;block d 8 0;edge a b;edge b c;edge a c;"
        + "edge c a;edge c c;base c a;check c;";

    public static void main(String[] args) {
        blocks();
        blocksThrow();
        edges();
        bases();
        differences();
        laws();
        values();
        errors();
        namesInLaws();
        Due.finish();
    }

    private static void row(MarkGuards x, int block, int... due) {
        for (int what = 0; what < due.length; what++) {
            Due.same("block(" + block + ", " + what + ")", x.block(block, what), due[what]);
        }
    }

    private static void blocks() {
        MarkGuards x = Due.of(FOUR);
        row(x, 0, 1, 5, 0, 0, 2, 1);
        row(x, 1, 2, 7, 0, 0, 1, 1);
        row(x, 2, 4, 9, 1, 0, 2, 3);
        row(x, 3, 8, 0, 0, 0, 0, 0);
        x.go(1);
        x.sign(1, 77);
        x.check(1);
        x.check(2);
        row(x, 1, 77, 7, 1, 1, 1, 1);
        row(x, 2, 4, 9, 0, 0, 2, 3);
    }

    private static int thrown(MarkGuards x, int block, int what) {
        try {
            x.block(block, what);
        } catch (IndexOutOfBoundsException e) {
            return 1;
        } catch (NoSuchElementException e) {
            return 2;
        }
        return 0;
    }

    private static void blocksThrow() {
        MarkGuards x = Due.of(FOUR);
        for (int block : new int[] {-1, 4, 8, Integer.MAX_VALUE, Integer.MIN_VALUE}) {
            Due.same("block(" + block + ", 0) throws", thrown(x, block, 0), 1);
            Due.same("block(" + block + ", 6) throws", thrown(x, block, 6), 1);
        }
        for (int what : new int[] {-1, 6, 60, Integer.MAX_VALUE, Integer.MIN_VALUE}) {
            Due.same("block(3, " + what + ") throws", thrown(x, 3, what), 2);
        }
        Due.same("block(0, 0) without BLOCKS throws", thrown(new MarkGuards(), 0, 0), 1);
    }

    private static void edges() {
        MarkGuards x = Due.of(FOUR);
        int[][] due = {{0, 1, 0}, {1, 2, 3}, {0, 2, 0}, {2, 0, 0}, {2, 2, 5}};
        for (int e = 0; e < due.length; e++) {
            for (int what = 0; what < 3; what++) {
                Due.same("edge(" + e + ", " + what + ")", x.edge(e, what), due[e][what]);
            }
            Due.same("edge(.., 3)", x.edge(e, 3), -1);
            Due.same("edge(.., -1)", x.edge(e, -1), -1);
        }
        Due.same("edge(-1, 0)", x.edge(-1, 0), -1);
        Due.same("edge(5, 0)", x.edge(5, 0), -1);
        x.sign(0, 16);
        Due.same("ADJUST by SIGN now", x.edge(1, 2), 18);
        Due.same("ADJUST of a ring by SIGN now", x.edge(4, 2), 20);
        MarkGuards y = Due.of("block a 1 5;block b 2 7;edge a a;edge b a;");
        Due.same("the ENTRY may be a JOIN", y.edge(1, 2), 3);
        Due.same("its BASE leads without", y.edge(0, 2), 0);
    }

    private static void bases() {
        MarkGuards x = Due.of(FOUR);
        Due.same("base(0)", x.base(0), 2);
        Due.same("base(1)", x.base(1), 0);
        Due.same("base(2), told", x.base(2), 0);
        Due.same("base(3), none", x.base(3), -2);
        Due.same("base(4)", x.base(4), -1);
        Due.same("base(-1)", x.base(-1), -1);
        Due.same("without a told one, the first EDGE's", Due.of("block a 1 1;block b 1 1;edge b a;edge a a;").base(0), 1);
    }

    private static void differences() {
        MarkGuards x = Due.of(FOUR);
        int[] due = {5, 3, 5, 8};
        for (int b = 0; b < 4; b++) {
            Due.same("diff(" + b + ")", x.diff(b), due[b]);
        }
        Due.same("diff(4)", x.diff(4), -1);
        Due.same("diff(-1)", x.diff(-1), -1);
        x.sign(0, 255);
        Due.same("diff by SIGN of its BASE now", x.diff(2), 251);
        Due.same("diff by its own SIGN now", x.diff(0), 251);
        Due.same("a ring on itself", Due.of("block a 9 1;edge a a;").diff(0), 0);
    }

    private static void laws() {
        MarkGuards x = Due.of("block a 1 5;block b 2 7;law turn 3;law out work;");
        Due.same("law(0, 1)", x.law(0, 1), 7);
        Due.same("law(1, 0)", x.law(1, 0), 3);
        Due.same("law(2, 0), none told", x.law(2, 0), Long.MIN_VALUE);
        Due.same("law(3, 0)", x.law(3, 0), Long.MIN_VALUE);
        Due.same("law(-1, 0)", x.law(-1, 0), Long.MIN_VALUE);
        Due.same("law(0, 2)", x.law(0, 2), Long.MIN_VALUE);
        Due.same("law(0, -1)", x.law(0, -1), Long.MIN_VALUE);
        Due.same("law without BLOCKS", Due.of("law out 1;").law(0, 0), Long.MIN_VALUE);
    }

    private static void value(String formula, long due) {
        for (String rule : new String[] {"out", "turn", "land"}) {
            MarkGuards x = Due.of("block a 1 5;law " + rule + " " + formula + ";");
            int what = rule.equals("out") ? 0 : rule.equals("turn") ? 1 : 2;
            Due.same("law " + rule + " " + formula, x.law(what, 0), due);
        }
    }

    private static void values() {
        value("1+2*3", 7);
        value("(1+2)*3", 9);
        value("10-3-2", 5);
        value("100/7/2", 7);
        value("7*5/2", 17);
        value("7/2*5", 15);
        value("(0-7)/2", -3);
        value("7/(0-2)", -3);
        value("0-9999*9999", -99980001);
        value("1<2", 1);
        value("2<2", 0);
        value("2<=2", 1);
        value("3<=2", 0);
        value("2=2", 1);
        value("2=3", 0);
        value("2<>3", 1);
        value("2<>2", 0);
        value("2>=2", 1);
        value("1>=2", 0);
        value("3>2", 1);
        value("2>2", 0);
        value("1+1<3-0", 1);
        value("5 and 7", 1);
        value("5 and 0", 0);
        value("0 or 0-3", 1);
        value("0 or 0", 0);
        value("not 5", 0);
        value("not 0", 1);
        value("not not 9", 1);
        value("not 1<2", 0);
        value("not 1+2", 0);
        value("not 0 and 0", 0);
        value("1 or 1 and 0", 1);
        value("(1 or 1) and 0", 0);
        value("0 and 0 or 1", 1);
        value("not (0 and 0) + 1", 0);
        value("0001", 1);
        StringBuilder deepest = new StringBuilder();
        for (int i = 0; i < 63; i++) {
            deepest.append(i < 8 ? "(" : "").append("not ");
        }
        value(deepest + "7))))))))", 0);
        value("1" + "+(1".repeat(8) + "-1".repeat(23) + "))))))))", 9 - 23);
    }

    private static void errors() {
        String trillion = "1000*1000*1000*1000";
        value(trillion, 1000000000000L);
        value("0-" + trillion, -1000000000000L);
        value(trillion + "+1", Long.MIN_VALUE);
        value("0-" + trillion + "-1", Long.MIN_VALUE);
        value(trillion + "+1-1", Long.MIN_VALUE);
        value("(" + trillion + ")*(" + trillion + ")", Long.MIN_VALUE);
        value("(0-" + trillion + ")*(" + trillion + ")", Long.MIN_VALUE);
        value("(" + trillion + ")*2", Long.MIN_VALUE);
        value("(" + trillion + ")*(0-1)", -1000000000000L);
        value("0*(" + trillion + ")", 0);
        value("(0-" + trillion + ")*0", 0);
        value("1/0", Long.MIN_VALUE);
        value("0 and 1/0", Long.MIN_VALUE);
        value("1 or 1/0", Long.MIN_VALUE);
        value("not (1/0)", Long.MIN_VALUE);
        value("0*(1/0)", Long.MIN_VALUE);
        value("1/0=1/0", Long.MIN_VALUE);
    }

    private static void namesInLaws() {
        MarkGuards x = Due.of("block a 1 5;block b 2 7;block c 4 9;edge a b;edge b a;edge b c;edge c a;law land "
            + "work+100*visits;law turn place+10*ways+1000*mark;law out total+1000*step;");
        x.go(2);
        Due.same("where one stands", x.count(5), 2);
        Due.same("TOTAL", x.count(8), 999);
        Due.same("land in b", x.law(2, 1), 107);
        Due.same("land in a", x.law(2, 0), 5);
        Due.same("land in c", x.law(2, 2), 109);
        Due.same("turn in b, MARK as now", x.law(1, 1), 4021);
        Due.same("turn in c", x.law(1, 2), 4012);
        Due.same("out, TOTAL and STEP as now", x.law(0, 0), 2999);
        x.sign(2, 6);
        x.jump(2);
        Due.same("visits as now", x.law(2, 2), 209);
        Due.same("mark as now", x.law(1, 0), 1000L * x.count(6) + 10);
    }
}
