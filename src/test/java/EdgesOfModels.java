/** Promises 18 to 23: worlds, sees, holds, world, fold, cut. */
final class EdgesOfModels {
    private static final int MIN = Integer.MIN_VALUE;
    private static final int MAX = Integer.MAX_VALUE;

    private final Checks c;

    EdgesOfModels(Checks c) {
        this.c = c;
    }

    void all() {
        worlds();
        sees();
        seesNone();
        holds();
        holdsNone();
        clusters();
        sizes();
        setSizes();
        worldOfAnotherWhat();
        worldOfNone();
        foldAlike();
        foldFewest();
        foldOrder();
        foldSixty();
        foldNone();
        cut();
        cutSixty();
        cutNone();
    }

    // ---- what is looked at again and again

    private ModalDesk open(String text, int worlds) {
        ModalDesk x = new ModalDesk();
        c.due("read of " + text, Checks.read(x, 0, text) >= 0, true);
        c.due("prove of " + text, x.prove(0, 100000), 0);
        c.due("worlds() of " + text, x.worlds(), worlds);
        return x;
    }

    /** 0 sees all; 1 (a) and 2 (not a) see each other, 3 (not a) and 4 (a) do, too. */
    private ModalDesk fiveWorlds() {
        return open("!([]<>a&[]<>!a)", 5);
    }

    /** Sixty worlds behind one another, z in the last one alone. */
    private ModalDesk sixtyWorlds() {
        return open("[]".repeat(59) + "!z", 60);
    }

    private void sight(ModalDesk x, String... rows) {
        c.due("worlds()", x.worlds(), rows.length);
        for (int a = 0; a < rows.length; a++) {
            for (int b = 0; b < rows.length; b++) {
                c.due("sees(" + a + ", " + b + ")", x.sees(a, b), rows[a].charAt(b) == '1');
            }
        }
    }

    private void world(ModalDesk x, int what, int... want) {
        for (int a = 0; a < want.length; a++) {
            c.due("world(" + a + ", " + what + ")", x.world(a, what), want[a]);
        }
    }

    private void holdsAt(ModalDesk x, String text, String want) {
        int f = Checks.read(x, 7, text);
        for (int a = 0; a < want.length(); a++) {
            c.due(text + " holds at " + a, x.holds(a, f), want.charAt(a) == '1');
        }
    }

    // ---- Promise 18

    private void worlds() {
        c.says("Promise 18", "How many worlds the MODEL at hand has; 0 without one.");
        ModalDesk x = new ModalDesk();
        c.due("worlds() at first", x.worlds(), 0);
        Checks.read(x, 0, "a");
        c.due("worlds() ahead of a prove", x.worlds(), 0);
        x.prove(0, 1);
        c.due("worlds() of a", x.worlds(), 1);
        x.set(0, 0);
        x.prove(0, 1);
        c.due("worlds() behind a proof", x.worlds(), 0);
        c.due("sixty", sixtyWorlds().worlds(), 60);
    }

    // ---- Promise 19

    private void sees() {
        c.says("Promise 19", "Whether world b is SEEN from world a.");
        sight(fiveWorlds(), "11111", "01100", "01100", "00011", "00011");
        sight(open("a", 1), "1");
        ModalDesk x = sixtyWorlds();
        c.due("sees(0, 59)", x.sees(0, 59), true);
        c.due("sees(59, 59)", x.sees(59, 59), true);
        c.due("sees(58, 59)", x.sees(58, 59), true);
        c.due("sees(59, 58)", x.sees(59, 58), false);
        c.due("sees(31, 32)", x.sees(31, 32), true);
        c.due("sees(32, 31)", x.sees(32, 31), false);
        c.due("sees(59, 0)", x.sees(59, 0), false);
    }

    private void seesNone() {
        c.says("Promise 19", "NoSuchElementException: there is no such world.");
        c.throwsAtSees(new ModalDesk(), 0, 0);
        ModalDesk x = fiveWorlds();
        for (int a : new int[] {5, 6, 60, 64, MAX, -1, -60, MIN}) {
            c.throwsAtSees(x, a, 0);
            c.throwsAtSees(x, 0, a);
            c.throwsAtSees(x, a, a);
        }
        x = sixtyWorlds();
        c.throwsAtSees(x, 60, 0);
        c.throwsAtSees(x, 0, 60);
        x.cut(59);
        c.throwsAtSees(x, 1, 0);
        c.throwsAtSees(x, 0, 1);
    }

    // ---- Promise 20

    private void holds() {
        c.says("Promise 20", "Whether FORMULA f holds at world a.");
        ModalDesk x = fiveWorlds();
        holdsAt(x, "T", "11111");
        holdsAt(x, "F", "00000");
        holdsAt(x, "a", "01001");
        holdsAt(x, "[]<>a&[]<>!a", "11111");
        // FORMULAS of which the tableau knew nothing
        holdsAt(x, "b", "00000");
        holdsAt(x, "<>(a&<>!b)", "11111");
        holdsAt(x, "[](a|b)", "00000");
        // of the model that there is now, whatever was told of one that was
        x.cut(4);
        holdsAt(x, "a", "10");
        Checks.read(x, 0, "!a");
        x.prove(0, 1);
        holdsAt(x, "a", "1");
        holdsAt(x, "[](a|b)", "1");
        Checks.read(x, 0, "a");
        x.prove(0, 1);
        holdsAt(x, "a", "0");
        holdsAt(x, "[](a|b)", "0");
        // 300 FORMULAS, and the last of 60 worlds
        x = sixtyWorlds();
        Checks.read(x, 1, "z" + "&z".repeat(88));
        c.due("formulas()", x.formulas(), 298);
        Checks.read(x, 1, "y");
        c.due("formulas()", x.formulas(), 300);
        c.due("holds(59, 299)", x.holds(59, 299), true);
        c.due("holds(59, 298)", x.holds(59, 298), false);
        c.due("holds(59, YES of z&z)", x.holds(59, Checks.read(x, 2, "z&z")), true);
        c.due("holds(58, YES of z&z)", x.holds(58, Checks.read(x, 2, "z&z")), false);
        c.due("holds(0, NO)", x.holds(0, x.slot(0, 1)), true);
    }

    private void holdsNone() {
        c.says("Promise 20", "NoSuchElementException: there is no such world, or FORMULA.");
        c.throwsAtHolds(new ModalDesk(), 0, 0);
        ModalDesk x = fiveWorlds();
        for (int a : new int[] {5, 6, 60, 64, MAX, -1, MIN}) {
            c.throwsAtHolds(x, a, 0);
            c.throwsAtHolds(x, a, -1);
        }
        for (int f : new int[] {x.formulas(), 299, 300, MAX, -1, MIN}) {
            c.throwsAtHolds(x, 0, f);
            c.throwsAtHolds(x, 4, f);
        }
        c.due("holds(4, the last one)", x.holds(4, x.formulas() - 1), true);
        // what a read with a FAULT would have made is none
        int n = x.formulas();
        Checks.read(x, 1, "c" + "&d".repeat(148));
        c.throwsAtHolds(x, 0, n);
    }

    // ---- Promise 21

    private void clusters() {
        c.says("Promise 21", "Of world a, what 0: the number of its CLUSTER: of those that are SEEN from each other, "
            + "numbered from 0 on by their least worlds; 1: how many worlds are in that;");
        ModalDesk x = fiveWorlds();
        world(x, 0, 0, 1, 1, 2, 2);
        world(x, 1, 1, 2, 2, 2, 2);
        world(open("a", 1), 0, 0);
        world(open("a", 1), 1, 1);
        // every one for itself
        x = sixtyWorlds();
        for (int a = 0; a < 60; a += 59) {
            c.due("world(" + a + ", 0)", x.world(a, 0), a);
            c.due("world(" + a + ", 1)", x.world(a, 1), 1);
        }
        // all in one
        x = fiveWorlds();
        x.fold();
        world(x, 0, 0, 0);
        world(x, 1, 2, 2);
        clustersApart();
    }

    /** a and not a again and again, and []b: once []b is there it stays, so that these lead to others alone. */
    private void clustersApart() {
        ModalDesk x = new ModalDesk();
        Checks.read(x, 1, "<>[]b");
        Checks.read(x, 1, "<>a");
        Checks.read(x, 0, "!([]<>a&[]<>!a&[]<>[]b)");
        c.due("prove", x.prove(0, 1000), 0);
        c.due("worlds()", x.worlds(), 30);
        // 12 leads back to 6, and 24 to 18
        world(x, 0, 0, 1, 2, 2, 3, 3, 4, 5, 6, 6, 7, 7, 4, 8, 9, 9, 10, 10, 11, 12, 13, 13, 14, 14, 11, 15, 16, 16, 17, 17);
        world(x, 1, 1, 1, 2, 2, 2, 2, 2, 1, 2, 2, 2, 2, 2, 1, 2, 2, 2, 2, 2, 1, 2, 2, 2, 2, 2, 1, 2, 2, 2, 2);
        // numbered anew where 12 comes first, then 6
        c.due("cut(12)", x.cut(12), 12);
        world(x, 0, 0, 0, 1, 2, 2, 3, 3, 4, 5, 5, 6, 6);
    }

    private void sizes() {
        c.says("Promise 21", "2: how many are SEEN from it;");
        world(fiveWorlds(), 2, 5, 2, 2, 2, 2);
        world(open("a", 1), 2, 1);
        ModalDesk x = sixtyWorlds();
        c.due("world(0, 2)", x.world(0, 2), 60);
        c.due("world(1, 2)", x.world(1, 2), 59);
        c.due("world(59, 2)", x.world(59, 2), 1);
    }

    private void setSizes() {
        c.says("Promise 21", "3: how many FORMULAS the SET of the tableau had there (NONE if the model was folded, or cut).");
        ModalDesk x = fiveWorlds();
        world(x, 3, 5, 5, 5, 5, 5);
        // they stay what they were, whatever is read
        Checks.read(x, 1, "b&c");
        world(x, 3, 5, 5, 5, 5, 5);
        c.due("fold()", x.fold(), 2);
        world(x, 3, -1, -1);
        c.due("prove anew", x.prove(0, 100), 0);
        world(x, 3, 5, 5, 5, 5, 5);
        c.due("cut(0)", x.cut(0), 5);
        world(x, 3, -1, -1, -1, -1, -1);
        // even if all stays as it is
        x = open("a", 1);
        world(x, 3, 1);
        c.due("fold()", x.fold(), 1);
        world(x, 3, -1);
        x.prove(0, 1);
        world(x, 3, 1);
        c.due("cut(0)", x.cut(0), 1);
        world(x, 3, -1);
        // a fold without a model folds none
        ModalDesk y = new ModalDesk();
        c.due("fold()", y.fold(), 0);
        Checks.read(y, 0, "a");
        y.prove(0, 1);
        world(y, 3, 1);
        // nor does a cut that is refused
        c.throwsAtCut(y, 1);
        world(y, 3, 1);
    }

    private void worldOfAnotherWhat() {
        c.says("Promise 21", "NONE for another what.");
        ModalDesk x = fiveWorlds();
        for (int what : new int[] {4, 5, -1, MIN, MAX}) {
            world(x, what, -1, -1, -1, -1, -1);
        }
    }

    private void worldOfNone() {
        c.says("Promise 21", "NoSuchElementException: there is no such world.");
        for (int what = 0; what < 4; what++) {
            c.throwsAtWorld(new ModalDesk(), 0, what);
            ModalDesk x = fiveWorlds();
            for (int a : new int[] {5, 6, 60, 64, MAX, -1, MIN}) {
                c.throwsAtWorld(x, a, what);
            }
            x.fold();
            c.throwsAtWorld(x, 2, what);
        }
    }

    // ---- Promise 22

    private void foldAlike() {
        c.says("Promise 22", "The MODEL is folded: worlds at which the same letters hold, and from which worlds of just "
            + "the same classes are SEEN, are one class");
        ModalDesk x = fiveWorlds();
        c.due("fold()", x.fold(), 2);
        sight(x, "11", "11");
        holdsAt(x, "a", "01");
        c.due("fold() again", x.fold(), 2);
        // letters that differ
        x = open("!(<>a&<>b)", 3);
        c.due("fold()", x.fold(), 3);
        sight(x, "111", "010", "001");
        // the last of all letters
        x = open("!(<>z&<>y)", 3);
        c.due("fold()", x.fold(), 3);
        // the same letters, but what is SEEN differs: 0 sees a, 2 does not
        x = open("!(<>(a&<>!a))", 3);
        c.due("fold()", x.fold(), 3);
        sight(x, "111", "011", "001");
        // the same letters, and what is SEEN is of the same class
        x = open("!(<>b&<>(b&T))", 3);
        c.due("fold()", x.fold(), 2);
        sight(x, "11", "01");
    }

    private void foldFewest() {
        c.says("Promise 22", "(of all ways to part them so that this holds the one with the fewest classes);");
        // each for itself would do as well, but all are one
        ModalDesk x = open("[]".repeat(59) + "z", 60);
        c.due("fold()", x.fold(), 1);
        sight(x, "1");
        // two clusters of two that are alike, seen from one
        x = fiveWorlds();
        x.fold();
        c.due("worlds()", x.worlds(), 2);
        // one world
        x = open("a", 1);
        c.due("fold()", x.fold(), 1);
        // two worlds with a that are alike, behind a model that was parted otherwise, and one that was cut
        x = fiveWorlds();
        c.due("fold()", x.fold(), 2);
        Checks.read(x, 0, "!(a&<>(a&T))");
        c.due("prove", x.prove(0, 100), 0);
        c.due("worlds()", x.worlds(), 2);
        c.due("fold()", x.fold(), 1);
        holdsAt(x, "a", "1");
        c.due("prove", x.prove(0, 100), 0);
        c.due("cut(1)", x.cut(1), 1);
        c.due("prove", x.prove(0, 100), 0);
        c.due("fold()", x.fold(), 1);
    }

    private void foldOrder() {
        c.says("Promise 22", "classes are its worlds then, in the order of their least ones, letters as there, "
            + "one SEEN from another one if worlds of them are: how many.");
        // 1 a, 2 b, 3 a and T: 1 and 3 are one class, ahead of 2
        ModalDesk x = open("!(<>a&<>b&<>(a&T))", 4);
        c.due("fold()", x.fold(), 3);
        holdsAt(x, "a", "010");
        holdsAt(x, "b", "001");
        sight(x, "111", "010", "001");
        // 1 b, 2 a and T, 3 a
        x = new ModalDesk();
        Checks.read(x, 1, "<>b");
        Checks.read(x, 1, "<>(a&T)");
        Checks.read(x, 0, "!(<>a&<>b&<>(a&T))");
        c.due("prove", x.prove(0, 100), 0);
        c.due("fold()", x.fold(), 3);
        holdsAt(x, "b", "010");
        holdsAt(x, "a", "001");
        world(x, 2, 3, 1, 1);
    }

    private void foldSixty() {
        ModalDesk x = sixtyWorlds();
        c.due("fold()", x.fold(), 2);
        sight(x, "11", "01");
        holdsAt(x, "z", "01");
        // a, not a, a .. behind one another: no two are alike, and it takes long to find out
        StringBuilder b = new StringBuilder("!(");
        for (int i = 1; i <= 28; i++) {
            b.append(i % 2 == 1 ? "<>(a&" : "<>(!a&");
        }
        x = open(b + "<>a" + ")".repeat(29), 30);
        c.due("fold()", x.fold(), 30);
        c.due("sees(0, 29)", x.sees(0, 29), true);
        c.due("sees(29, 28)", x.sees(29, 28), false);
        c.due("world(7, 2)", x.world(7, 2), 23);
    }

    private void foldNone() {
        c.says("Promise 22", "(0 without a model.)");
        ModalDesk x = new ModalDesk();
        c.due("fold() at first", x.fold(), 0);
        x.set(0, 0);
        x.prove(0, 1);
        c.due("fold() behind a proof", x.fold(), 0);
        c.due("worlds()", x.worlds(), 0);
        c.due("proof() stays", x.proof(), 3);
    }

    // ---- Promise 23

    private void cut() {
        c.says("Promise 23", "The MODEL is cut to what is SEEN from world a, in the order that there was, but a first: "
            + "how many worlds.");
        ModalDesk x = fiveWorlds();
        c.due("cut(0)", x.cut(0), 5);
        sight(x, "11111", "01100", "01100", "00011", "00011");
        holdsAt(x, "a", "01001");
        c.due("cut(4)", x.cut(4), 2);
        sight(x, "11", "11");
        holdsAt(x, "a", "10");
        c.due("cut(1)", x.cut(1), 2);
        holdsAt(x, "a", "01");
        c.due("cut(0)", x.cut(0), 2);
        holdsAt(x, "a", "01");
        // what a world sees, and not what sees it
        x = open("!(<>(a&<>b)&<>c)", 4);
        c.due("cut(1)", x.cut(1), 2);
        sight(x, "11", "01");
        holdsAt(x, "a", "10");
        holdsAt(x, "b", "01");
        holdsAt(x, "c", "00");
        c.due("cut(1)", x.cut(1), 1);
        holdsAt(x, "b", "1");
        c.due("cut(0) of one", x.cut(0), 1);
        sight(x, "1");
        fiveInACluster();
    }

    /** b, c and d again and again: 1 b, 2 c, 3 d, 4 d and 5 c see each other. */
    private void fiveInACluster() {
        ModalDesk x = open("!([]<>(b&!c&!d)&[]<>(!b&c&!d)&[]<>(!b&!c&d))", 16);
        holdsAt(x, "b", "010000");
        holdsAt(x, "c", "001001");
        holdsAt(x, "d", "000110");
        world(x, 1, 1, 5, 5, 5, 5, 5, 5);
        c.due("cut(3)", x.cut(3), 5);
        sight(x, "11111", "11111", "11111", "11111", "11111");
        holdsAt(x, "b", "01000");
        holdsAt(x, "c", "00101");
        holdsAt(x, "d", "10010");
    }

    private void cutSixty() {
        ModalDesk x = sixtyWorlds();
        c.due("cut(1)", x.cut(1), 59);
        holdsAt(x, "[]z", "0".repeat(58) + "1");
        c.due("world(0, 2)", x.world(0, 2), 59);
        c.due("sees(58, 57)", x.sees(58, 57), false);
        c.due("cut(58)", x.cut(58), 1);
        holdsAt(x, "z", "1");
    }

    private void cutNone() {
        c.says("Promise 23", "NoSuchElementException: there is no such world.");
        c.throwsAtCut(new ModalDesk(), 0);
        ModalDesk x = fiveWorlds();
        for (int a : new int[] {5, 6, 60, 64, MAX, -1, MIN}) {
            c.throwsAtCut(x, a);
        }
        c.due("worlds() stay", x.worlds(), 5);
        world(x, 3, 5, 5, 5, 5, 5);
        x.cut(4);
        c.throwsAtCut(x, 2);
        c.throwsAtCut(x, 4);
        x.set(0, 0);
        x.prove(0, 1);
        c.throwsAtCut(x, 0);
    }
}
