import java.util.ArrayList;
import java.util.List;
import java.util.function.Consumer;

/**
 * Two objects that get the same calls; one of them gets calls besides of which nothing may come. Then all that can be
 * asked must be answered alike, and so must what comes of undoing, going on, going back and reading the TAPE.
 */
final class Twin {
    static final String TEXT = "block a 1 5;block b 2 7;block c 4 9;edge a b;edge a c;edge b c;edge c a;check c;limit 2;"
        + "jump 50;seed 7;law out work+visits*2;law turn visits+step;";
    private static final int BLOCKS = 3;
    private static final int EDGES = 4;

    /** A call of one number. */
    interface ByNumber {
        long of(MarkGuards x, int number);
    }

    final MarkGuards tried = new MarkGuards();
    private final MarkGuards spared = new MarkGuards();

    void both(Consumer<MarkGuards> calls) {
        calls.accept(tried);
        calls.accept(spared);
    }

    /** All that an object has is there: a TAPE, a fault, VISITS, TOTAL, NOTES, an IMAGE, what can be undone. */
    static Twin rich() {
        Twin twin = new Twin();
        twin.both(Twin::makeRich);
        twin.both(x -> Due.feed(x, "limit 3;jump 8;     "));
        return twin;
    }

    static void makeRich(MarkGuards x) {
        Due.read(x, TEXT);
        Due.read(x, "limit 41;");
        x.go(6);
        x.keep();
        x.go(5);
        x.note(0, 0, false);
        x.note(2, 1, true);
        x.strike(1);
        x.note(3, 1, false);
        x.known(3);
        x.sign(1, 6);
        x.check(0);
        x.jump(1);
    }

    /** Each of these numbers is answered so, and nothing comes of it. */
    static void refuses(String call, long due, ByNumber f, int... numbers) {
        Twin twin = rich();
        for (int number : numbers) {
            Due.same(call + " of " + number, f.of(twin.tried, number), due);
        }
        twin.alike(call);
    }

    void alike(String when) {
        alike(when, true);
    }

    void alike(String when, boolean faultsToo) {
        List<Long> got = looks(tried, faultsToo);
        got.addAll(undoing(tried));
        got.addAll(reading(tried));
        List<Long> want = looks(spared, faultsToo);
        want.addAll(undoing(spared));
        want.addAll(reading(spared));
        for (int i = 0; i < Math.max(got.size(), want.size()); i++) {
            boolean same = i < got.size() && i < want.size() && got.get(i).equals(want.get(i));
            Due.so("all is as it was behind " + when + ", but the answer number " + i + " isn't", same);
        }
    }

    private static List<Long> looks(MarkGuards x, boolean faultsToo) {
        List<Long> row = new ArrayList<>();
        for (int what = 0; what < 15; what++) {
            row.add((long) x.count(what));
        }
        if (faultsToo) {
            row.add((long) x.fault(0));
            row.add((long) x.fault(1));
        }
        for (int b = 0; b < BLOCKS && b < x.count(0); b++) {
            looksAtBlock(x, b, row);
        }
        for (int e = 0; e < EDGES && e < x.count(1); e++) {
            looksAtEdge(x, e, row);
        }
        for (int what = 0; what < 5; what++) {
            row.add((long) x.ahead(4, what));
            row.add((long) x.tried(what, 0, 6));
            row.add((long) x.cover(what));
        }
        row.add((long) x.checks(0));
        row.add((long) x.bases());
        row.add(x.holds(1, 0));
        row.add((long) x.alike());
        row.add((long) x.chance(3, 6));
        return row;
    }

    private static void looksAtBlock(MarkGuards x, int b, List<Long> row) {
        for (int what = 0; what < 6; what++) {
            row.add((long) x.block(b, what));
        }
        for (int what = 0; what < 3; what++) {
            row.add(x.law(what, b));
            row.add((long) x.ask(b, what));
            row.add((long) x.far(b, what));
        }
        row.add((long) x.base(b));
        row.add((long) x.diff(b));
        row.add((long) x.comes(b));
        row.add((long) x.only(b));
        row.add((long) x.ring(b));
        row.add((long) x.nearest(b));
        row.add((long) x.leaders(b, 3, 0));
        row.add((long) x.leaders(b, 3, 1));
        row.add((long) x.ways(b, 5));
        row.add((long) x.signs(b));
    }

    private static void looksAtEdge(MarkGuards x, int e, List<Long> row) {
        for (int what = 0; what < 3; what++) {
            row.add((long) x.edge(e, what));
        }
        for (int b = 0; b < BLOCKS; b++) {
            row.add((long) x.slip(e, b));
            row.add((long) x.caught(e, b));
            row.add((long) x.beyond(e, b));
        }
    }

    private static void now(MarkGuards x, List<Long> row) {
        for (int what = 4; what < 15; what++) {
            row.add((long) x.count(what));
        }
        for (int b = 0; b < x.count(0); b++) {
            row.add((long) x.block(b, 0));
            row.add((long) x.block(b, 2));
            row.add((long) x.block(b, 3));
        }
    }

    private static List<Long> undoing(MarkGuards x) {
        List<Long> row = new ArrayList<>();
        long left = 0;
        for (int i = 0; i < 4 && left >= 0; i++) {
            left = x.undo();
            row.add(left);
            now(x, row);
        }
        row.add((long) x.go(5));
        now(x, row);
        row.add((long) x.back());
        now(x, row);
        row.add((long) x.go(5));
        now(x, row);
        return row;
    }

    /** What the TAPE holds: how much it is, and what its first bytes tell. */
    private static List<Long> reading(MarkGuards x) {
        List<Long> row = new ArrayList<>();
        int length = x.feed(0x20202020, 0x20202020, 0x20202020, 0x20202020, 0x20202020);
        row.add((long) length);
        row.add((long) x.text(length < 0 ? 700 : length));
        row.add((long) x.fault(0));
        row.add((long) x.fault(1));
        row.add(x.holds(1, 0));
        row.add((long) x.count(0));
        return row;
    }
}
