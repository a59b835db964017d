/** Promises 39 to 42: undo, keep, back, count. */
public final class HistoryTest {
    private static final String THREE = "block a 1 5;block b 2 7;block c 4 9;edge a b;edge a c;edge b c;edge c a;check c;";

    public static void main(String[] args) {
        undoing();
        twentyAtMost();
        keeping();
        imageKeepsAll();
        counting();
        Due.finish();
    }

    private static long[] all(MarkGuards x) {
        long[] row = new long[15 + 9];
        for (int what = 0; what < 15; what++) {
            row[what] = x.count(what);
        }
        for (int b = 0; b < 3; b++) {
            row[15 + b] = x.block(b, 0);
            row[18 + b] = x.block(b, 2);
            row[21 + b] = x.block(b, 3);
        }
        return row;
    }

    private static void same(String when, long[] got, long[] want, int... but) {
        for (int i = 0; i < got.length; i++) {
            boolean left = false;
            for (int b : but) {
                left = left || b == i;
            }
            if (!left) {
                Due.same(when + ", " + i, got[i], want[i]);
            }
        }
    }

    private static void undoing() {
        MarkGuards x = Due.of(THREE);
        Due.same("undo of nothing", x.undo(), -1);
        x.go(3);
        long[] first = all(x);
        x.jump(1);
        long[] second = all(x);
        x.jump(1);
        x.jump(2);
        long[] third = all(x);
        x.jump(2);
        Due.same("an ALARM", x.count(9), 1);
        x.check(0);
        x.sign(0, 200);
        Due.same("what can be undone", x.count(14), 6);
        Due.same("undo signing", x.undo(), 5);
        Due.same("SIGN", x.block(0, 0), 1);
        Due.same("undo checking", x.undo(), 4);
        Due.same("undo an ALARM", x.undo(), 3);
        same("undone", all(x), third);
        x.undo();
        Due.same("undo", x.undo(), 1);
        same("undone", all(x), second);
        Due.same("the first", x.undo(), 0);
        same("undone", all(x), first);
        Due.same("undo of nothing", x.undo(), -1);
        x.jump(5);
        x.check(-1);
        x.sign(0, 256);
        Due.same("what was none can't be undone", x.undo(), -1);
        x.check(0);
        x.note(0, 0, true);
        x.known(0);
        Due.same("go(0): no STEP went by", x.go(0), 3);
        Due.same("go(-1): no STEP went by", x.go(-1), -1);
        Due.same("undo", x.undo(), 0);
        Due.same("NOTES stay", x.count(12), 1);
        x.check(0);
        x.go(1);
        Due.same("a STEP went by", x.undo(), -1);
        Due.same("nothing to undo", x.count(14), 0);
        Due.same("the CHECK stays", x.block(0, 2), 1);
    }

    private static void twentyAtMost() {
        MarkGuards x = Due.of(THREE);
        for (int i = 1; i <= 25; i++) {
            x.sign(0, 100 + i);
            Due.same("to undo", x.count(14), Math.min(i, 20));
        }
        for (int i = 19; i >= 0; i--) {
            Due.same("undo", x.undo(), i);
            Due.same("SIGN", x.block(0, 0), 105 + i);
        }
        Due.same("the oldest are gone", x.undo(), -1);
        Due.same("SIGN", x.block(0, 0), 105);
        x.sign(0, 7);
        Due.same("anew", x.undo(), 0);
        Due.same("SIGN", x.block(0, 0), 105);
        x.sign(0, 105);
        Due.same("the same SIGN can be undone", x.undo(), 0);
    }

    private static void keeping() {
        MarkGuards x = Due.of(THREE + "jump 50;seed 5;");
        Due.same("back to none", x.back(), -1);
        x.go(7);
        x.sign(1, 20);
        x.check(0);
        Due.same("keep", x.keep(), 7);
        long[] kept = all(x);
        Due.same("what can be undone stays", x.count(14), 2);
        x.go(30);
        long[] later = all(x);
        x.sign(1, 40);
        x.note(0, 0, true);
        x.known(0);
        Due.same("back", x.back(), 7);
        same("back", all(x), kept, 12, 13, 14);
        Due.same("NOTES stay", x.count(12), 1);
        Due.same("nothing to undo", x.count(14), 0);
        Due.same("nothing to undo", x.undo(), -1);
        x.go(30);
        same("numbers go on from the IMAGE", all(x), later, 12, 13, 14);
        Due.same("the IMAGE stays", x.back(), 7);
        x.go(2);
        Due.same("in place of one ahead", x.keep(), 9);
        x.go(2);
        Due.same("back to that", x.back(), 9);
        Due.same("keep without BLOCKS", new MarkGuards().keep(), 0);
        Due.same("a new text", Due.read(x, "limit 1;"), 1);
        Due.same("has no IMAGE", x.back(), -1);
        x.keep();
        Due.same("a faulty text", Due.read(x, "limit;"), -1);
        Due.same("leaves it", x.back(), 0);
    }

    private static void imageKeepsAll() {
        MarkGuards x = Due.of(THREE);
        x.jump(1);
        x.jump(1);
        x.jump(2);
        x.jump(2);
        x.keep();
        long[] kept = all(x);
        x.undo();
        x.undo();
        x.sign(2, 77);
        x.check(1);
        x.back();
        same("JUMPS, ALARMS, VISITS, SIGNS, CHECKS", all(x), kept, 14);
    }

    private static void counting() {
        MarkGuards x = Due.of(THREE + "block d 3 3;edge b d;law out work+1;law turn 1;jump 0;");
        int[] due = {4, 5, 1, 4, 0, 0, 1, 0, 0, 0, 0, 0, 0, 0, 0};
        for (int what = 0; what < 15; what++) {
            Due.same("count(" + what + ")", x.count(what), due[what]);
        }
        x.jump(1);
        x.go(1);
        Due.same("in d", x.count(5), 3);
        Due.same("MARK", x.count(6), 3);
        x.go(1);
        x.go(1);
        x.sign(1, 44);
        x.jump(1);
        x.note(0, 0, true);
        x.note(0, 0, true);
        x.known(1);
        int[] then = {4, 5, 1, 4, 3, 1, 4 ^ 1 ^ 44, 0, 8 + 4 + 10 + 8, 0, 2, 1, 2, 1, 2};
        for (int what = 0; what < 15; what++) {
            Due.same("then count(" + what + ")", x.count(what), then[what]);
        }
        for (int what : new int[] {-1, 15, Integer.MAX_VALUE, Integer.MIN_VALUE}) {
            Due.same("count(" + what + ")", x.count(what), -1);
        }
        x.check(0);
        Due.same("CHECKS now", x.count(2), 2);
        MarkGuards y = Due.of(THREE);
        y.go(2);
        Due.same("ADJUST", y.count(7), 3);
        y.jump(2);
        Due.same("ALARMS", y.count(9), 1);
        Due.same("ADJUST is 0 behind one", y.count(7), 0);
    }
}
