/** Promises 32 to 36: note, strike, known, signs, ask. */
public final class NotesTest {
    private static final String THREE = "block a 1 5;block b 2 7;block c 4 9;edge a b;edge a c;edge b c;edge c a;check c;";
    private static final String TWO = "block p 3 0;block q 5 0;edge p p;";

    public static void main(String[] args) {
        noting();
        striking();
        knowing();
        signs();
        asking();
        Due.finish();
    }

    private static void noting() {
        MarkGuards x = Due.of(THREE);
        Due.same("note of no EDGE", x.note(4, 0, true), -1);
        Due.same("note of no EDGE", x.note(-1, 0, true), -1);
        Due.same("note of no BLOCK", x.note(0, 3, true), -1);
        Due.same("note of no BLOCK", x.note(0, -1, true), -1);
        Due.same("note of no SLIP", x.note(0, 1, true), -1);
        for (int i = 0; i < 24; i++) {
            Due.same("note", x.note(i % 4, i % 4 == 3 ? 1 : 0, false), i);
        }
        Due.same("a 25th", x.note(0, 0, false), -1);
        Due.same("a 25th that strikes", x.strike(0), -1);
        Due.same("NOTES", x.count(12), 24);
        Due.same("note without BLOCKS", new MarkGuards().note(0, 0, true), -1);
    }

    private static void striking() {
        MarkGuards x = Due.of(TWO);
        Due.same("strike without NOTES", x.strike(0), -1);
        x.note(0, 1, true);
        Due.same("p is 0", x.signs(0), 1);
        Due.same("strike(1)", x.strike(1), -1);
        Due.same("strike(-1)", x.strike(-1), -1);
        Due.same("strike(0)", x.strike(0), 1);
        Due.same("STRUCK: any", x.signs(0), 65535);
        Due.same("strike(1), what strikes", x.strike(1), 2);
        Due.same("it counts again", x.signs(0), 1);
        Due.same("strike(0) again", x.strike(0), 3);
        Due.same("STRUCK again", x.signs(0), 65535);
        Due.same("strike(2)", x.strike(2), 4);
        Due.same("strike(3)", x.strike(3), 5);
        Due.same("1 strikes it, as 2 is STRUCK", x.signs(0), 65535);
        Due.same("strike(4)", x.strike(4), 6);
        Due.same("2 strikes 1, as 4 is STRUCK; 3 is STRUCK", x.signs(0), 1);
        Due.same("those that strike are NOTES", x.count(12), 7);
    }

    private static void knowing() {
        MarkGuards x = Due.of(TWO);
        Due.same("known(1) of none", x.known(1), false);
        Due.same("known(0) of none", x.known(0), true);
        Due.same("by 0", x.count(13), 0);
        x.note(0, 1, true);
        Due.same("by 0 still", x.count(13), 0);
        Due.same("nothing is KNOWN", x.signs(0), 65535);
        Due.same("known(-1)", x.known(-1), true);
        Due.same("by all", x.count(13), 1);
        Due.same("KNOWN", x.signs(0), 1);
        x.strike(0);
        Due.same("also those to come", x.signs(0), 65535);
        Due.same("by all", x.count(13), 2);
        Due.same("known(1)", x.known(1), true);
        Due.same("what strikes isn't KNOWN", x.signs(0), 1);
        Due.same("by 1", x.count(13), 1);
        Due.same("known(2)", x.known(2), true);
        Due.same("what strikes is KNOWN", x.signs(0), 65535);
        x.strike(1);
        Due.same("not those to come", x.signs(0), 65535);
        Due.same("known(4)", x.known(4), false);
        Due.same("known(-2)", x.known(-2), false);
        Due.same("known(" + Integer.MAX_VALUE + ")", x.known(Integer.MAX_VALUE), false);
        Due.same("by 2 still", x.count(13), 2);
        Due.same("known(3)", x.known(3), true);
        Due.same("by 3", x.signs(0), 1);
    }

    private static void signs() {
        MarkGuards x = Due.of(TWO);
        Due.same("without NOTES", x.signs(0), 65535);
        x.note(0, 1, false);
        Due.same("p isn't 0", x.signs(0), 65534);
        Due.same("q may be any, as p is 3", x.signs(1), 65535);
        x.sign(0, 0);
        Due.same("q can't be, as p is 0 now", x.signs(1), 0);
        Due.same("its own SIGN doesn't matter", x.signs(0), 65534);
        Due.same("SIGN stays", x.block(0, 0), 0);
        x.note(0, 1, true);
        Due.same("both can't be", x.signs(0), 0);
        Due.same("signs(2)", x.signs(2), -1);
        Due.same("signs(-1)", x.signs(-1), -1);
        Due.same("signs without BLOCKS", new MarkGuards().signs(0), -1);
        MarkGuards y = Due.of(THREE);
        y.note(2, 1, true);
        Due.same("a is as c", y.signs(0), 1 << 2 | 0);
        Due.same("b: 2 ^ a ^ b is b, if a is b", y.signs(1), 1 << 1);
        Due.same("c: none", y.signs(2), 0);
    }

    private static void asking() {
        MarkGuards x = Due.of(TWO);
        Due.same("ask(0, 0)", x.ask(0, 0), 0);
        Due.same("ask(0, 1)", x.ask(0, 1), 1);
        Due.same("ask(0, 2): each MARK tells another", x.ask(0, 2), 1);
        Due.same("ask(0, 3)", x.ask(0, 3), -1);
        Due.same("ask(0, -1)", x.ask(0, -1), -1);
        Due.same("ask(2, 0)", x.ask(2, 0), -1);
        Due.same("ask(-1, 0)", x.ask(-1, 0), -1);
        Due.same("ask without BLOCKS", new MarkGuards().ask(0, 0), -1);
        x.note(0, 1, true);
        x.note(0, 1, false);
        Due.same("no SIGNS: the first SLIP", x.ask(0, 0) * 10 + x.ask(0, 1), 1);
        Due.same("no SIGNS: 0", x.ask(0, 2), 0);
        MarkGuards lone = Due.of("block a 1 1;edge a a;");
        Due.same("no SLIPS", lone.ask(0, 0), -2);
        Due.same("no SLIPS", lone.ask(0, 2), -2);
        Due.same("no SLIPS, no such what", lone.ask(0, 3), -1);
        MarkGuards y = Due.of(THREE);
        Due.same("a is told by b to a, the first of those", y.ask(0, 0) * 10 + y.ask(0, 1), 20);
        Due.same("one is left", y.ask(0, 2), 1);
        y.note(3, 1, false);
        Due.same("MARK now doesn't matter", y.ask(0, 0) * 10 + y.ask(0, 1), 20);
        MarkGuards blind = Due.of("block a 1 1;block b 2 1;edge a b;");
        Due.same("a SLIP to a makes a's own bits go", blind.ask(0, 2), 16);
        Due.same("b isn't asked by it", blind.ask(1, 2), 16);
    }
}
