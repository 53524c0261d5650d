/** Promises 18 to 23: worlds, sees, holds, world, fold, cut. */
public final class ModelTest {
    private static final Checks c = new Checks();

    public static void main(String[] args) {
        clusters();
        seenAll();
        holds();
        fold();
        foldsNothing();
        cut();
        refusals();
        c.end("ModelTest");
    }

    /**
     * Worlds 0 (neither), 1 (a) and 2 (not a), that see each other, 3 (not a) and 4 (a), that do,
     * too; all are seen from 0.
     */
    private static ModalDesk fiveWorlds() {
        ModalDesk x = new ModalDesk();
        Checks.read(x, 0, "!([]<>a&[]<>!a)");
        c.due("prove", x.prove(0, 1000), 0);
        c.due("count(0)", x.count(0), 17);
        c.due("count(1)", x.count(1), 5);
        c.due("count(2)", x.count(2), 2);
        c.due("count(3)", x.count(3), 3);
        c.due("worlds()", x.worlds(), 5);
        return x;
    }

    private static void sight(ModalDesk x, String... rows) {
        c.due("worlds()", x.worlds(), rows.length);
        for (int a = 0; a < rows.length; a++) {
            for (int b = 0; b < rows.length; b++) {
                c.due("sees(" + a + ", " + b + ")", x.sees(a, b), rows[a].charAt(b) == '1');
            }
        }
    }

    private static void world(ModalDesk x, int what, int... want) {
        for (int a = 0; a < want.length; a++) {
            c.due("world(" + a + ", " + what + ")", x.world(a, what), want[a]);
        }
    }

    private static void holdsAt(ModalDesk x, String text, String want) {
        int f = Checks.read(x, 7, text);
        c.due("worlds() of " + text, x.worlds(), want.length());
        for (int a = 0; a < want.length(); a++) {
            c.due(text + " holds at " + a, x.holds(a, f), want.charAt(a) == '1');
            c.due("its NO at " + a, x.holds(a, x.slot(7, 1)), want.charAt(a) == '0');
        }
    }

    private static void clusters() {
        ModalDesk x = fiveWorlds();
        sight(x, "11111", "01100", "01100", "00011", "00011");
        world(x, 0, 0, 1, 1, 2, 2);
        world(x, 1, 1, 2, 2, 2, 2);
        world(x, 2, 5, 2, 2, 2, 2);
        // BOTH, the NEEDS and the MAYS; then the START's three and two MAYS
        world(x, 3, 5, 5, 5, 5, 5);
        world(x, 4, -1, -1, -1, -1, -1);
        world(x, -1, -1, -1, -1, -1, -1);
        holdsAt(x, "a", "01001");
    }

    private static void seenAll() {
        // worlds 0 1 2 one behind another: what follows by 3 is SEEN, too
        ModalDesk x = new ModalDesk();
        Checks.read(x, 0, "!(a&<>(!a&<>(a&b)))");
        c.due("prove", x.prove(0, 1000), 0);
        sight(x, "111", "011", "001");
        world(x, 0, 0, 1, 2);
        world(x, 1, 1, 1, 1);
        world(x, 2, 3, 2, 1);
        world(x, 3, 3, 3, 3);
        // a world that sees two that see no other
        Checks.read(x, 0, "!(<>[]a&<>[]!a)");
        c.due("prove", x.prove(0, 1000), 0);
        sight(x, "111", "010", "001");
        holdsAt(x, "a", "010");
        holdsAt(x, "[]a", "010");
        holdsAt(x, "<>a", "110");
        world(x, 3, 3, 2, 2);
    }

    private static void holds() {
        ModalDesk x = fiveWorlds();
        holdsAt(x, "T", "11111");
        holdsAt(x, "F", "00000");
        holdsAt(x, "a", "01001");
        holdsAt(x, "!a", "10110");
        holdsAt(x, "b", "00000");
        holdsAt(x, "a&!b", "01001");
        holdsAt(x, "a|b", "01001");
        holdsAt(x, "[]<>a", "11111");
        holdsAt(x, "<>[]a", "00000");
        holdsAt(x, "<>(!a&<>a)", "11111");
        holdsAt(x, "[](a|b)", "00000");
        holdsAt(x, "[]T>F", "00000");
        c.throwsAtHolds(x, 0, x.formulas());
        c.throwsAtHolds(x, 0, -1);
        c.throwsAtHolds(x, 5, 0);
        c.throwsAtHolds(x, -1, 0);
        c.throwsAtHolds(x, Integer.MAX_VALUE, Integer.MAX_VALUE);
        // what holds is told of the model at hand, not of one that was
        x.cut(4);
        holdsAt(x, "a", "10");
        Checks.read(x, 0, "a");
        x.prove(0, 10);
        holdsAt(x, "a", "0");
        Checks.read(x, 0, "!a");
        x.prove(0, 10);
        holdsAt(x, "a", "1");
    }

    private static void fold() {
        ModalDesk x = fiveWorlds();
        c.due("fold()", x.fold(), 2);
        sight(x, "11", "11");
        holdsAt(x, "a", "01");
        holdsAt(x, "[]<>a&[]<>!a", "11");
        world(x, 0, 0, 0);
        world(x, 1, 2, 2);
        world(x, 2, 2, 2);
        world(x, 3, -1, -1);
        c.due("fold() again", x.fold(), 2);
        c.throwsAtSees(x, 2, 0);
        c.due("prove anew", x.prove(0, 1000), 0);
        world(x, 3, 5, 5, 5, 5, 5);
    }

    private static void foldsNothing() {
        // 0 -> 1 -> 2, where 0 and 2 have the same letters but do not see the same
        ModalDesk x = new ModalDesk();
        Checks.read(x, 0, "!(!a&<>(a&<>!a&[](a|b|!a)))");
        c.due("prove", x.prove(0, 1000), 0);
        int before = x.worlds();
        c.due("worlds()", before, 3);
        c.due("fold()", x.fold(), 3);
        world(x, 3, -1, -1, -1);
        sight(x, "111", "011", "001");
        // the classes come in the order of their least worlds: 1 and 3 become one
        x = new ModalDesk();
        Checks.read(x, 0, "!(<>a&<>!a&<>(a&!b))");
        c.due("prove", x.prove(0, 1000), 0);
        sight(x, "1111", "0100", "0010", "0001");
        c.due("fold()", x.fold(), 3);
        sight(x, "111", "010", "001");
        holdsAt(x, "a", "010");
        // all that is alike is one
        Checks.read(x, 0, "[]a");
        x.prove(0, 1000);
        c.due("worlds()", x.worlds(), 2);
        c.due("fold()", x.fold(), 1);
        sight(x, "1");
    }

    private static void cut() {
        ModalDesk x = fiveWorlds();
        c.due("cut(2)", x.cut(2), 2);
        sight(x, "11", "11");
        holdsAt(x, "a", "01");
        world(x, 3, -1, -1);
        x.prove(0, 1000);
        c.due("cut(0)", x.cut(0), 5);
        sight(x, "11111", "01100", "01100", "00011", "00011");
        world(x, 0, 0, 1, 1, 2, 2);
        world(x, 3, -1, -1, -1, -1, -1);
        c.due("cut(4)", x.cut(4), 2);
        holdsAt(x, "a", "10");
        c.due("cut(1)", x.cut(1), 2);
        holdsAt(x, "a", "01");
        // a world with one ahead of it and one behind: it comes first, the others keep their order
        Checks.read(x, 0, "!(b&<>(a&[]<>c&[]<>d))");
        c.due("prove", x.prove(0, 1000), 0);
        int n = x.worlds();
        int a = n - 1;
        int size = x.world(a, 2);
        int least = 0;
        while (!x.sees(a, least)) {
            least++;
        }
        int letters = Checks.read(x, 7, "c");
        boolean there = x.holds(least, letters);
        boolean here = x.holds(a, letters);
        c.due("cut of the last", x.cut(a), size);
        c.due("its own letters come first", x.holds(0, letters), here);
        c.due("then those of the least one", x.holds(1, letters), there);
    }

    private static void refusals() {
        ModalDesk x = fiveWorlds();
        c.throwsAtSees(x, 0, 5);
        c.throwsAtSees(x, 5, 0);
        c.throwsAtSees(x, -1, 0);
        c.throwsAtSees(x, 0, -1);
        c.throwsAtWorld(x, 5, 0);
        c.throwsAtWorld(x, -1, 3);
        // the first refusal that is told counts
        c.due("world(5, 4)", x.world(5, 4), -1);
        c.due("world(-1, -1)", x.world(-1, -1), -1);
        c.throwsAtCut(x, 5);
        c.throwsAtCut(x, -1);
        c.throwsAtCut(x, Integer.MIN_VALUE);
        c.due("a cut that is refused changes nothing", x.world(0, 3), 5);
        c.due("worlds()", x.worlds(), 5);
        x.fold();
        c.throwsAtWorld(x, 2, 3);
    }
}
