/** Terms 5 and promises 14 to 17: which proof is RIGHT; prove, count, proof, verify. */
final class EdgesOfProofs {
    private static final int MIN = Integer.MIN_VALUE;
    private static final int MAX = Integer.MAX_VALUE;
    private static final int[] NO_SLOTS = {-1, 8, 9, MIN, MAX};

    private final Checks c;

    EdgesOfProofs(Checks c) {
        this.c = c;
    }

    void all() {
        justTheLines();
        byClash();
        byBoth();
        bySelf();
        byEither();
        byNext();
        partsThereAlready();
        eachRuleOfItsSort();
        bytesOfLines();
        fuel();
        closed();
        open();
        proveRefused();
        atHandStays();
        count();
        countOfNone();
        countOfStopped();
        proof();
        proofOfNone();
        verify();
        verifyLong();
        verifyRefused();
    }

    // ---- what is looked at again and again

    private void verifies(ModalDesk x, int want, int... lines) {
        Checks.typeLines(x, lines);
        StringBuilder b = new StringBuilder("verify of");
        for (int line : lines) {
            b.append(' ').append(line);
        }
        c.due(b.toString(), x.verify(0), want);
    }

    private static ModalDesk having(String text) {
        ModalDesk x = new ModalDesk();
        Checks.read(x, 0, text);
        return x;
    }

    /** 2 !a, 3 <>2, 4 a, 5 (3|4); its NO: 6 []4, 7 (6&2). */
    private static ModalDesk needOfA() {
        return having("[]a>a");
    }

    /** 2 !a, 3 !b, 4 (2&3), 5 b, 6 a, 7 (5|6), 8 (4|7); its NO: 9 (6|5), 10 (3&2), 11 (9&10). */
    private static ModalDesk eitherWay() {
        return having("a|b>b|a");
    }

    /** 2 !a, 3 <>2, 4 a, 5 []4, 6 []5, 7 (3|6); its NO: 8 <>3, 9 (5&8). */
    private static ModalDesk needOfNeed() {
        return having("[]a>[][]a");
    }

    private void counts(ModalDesk x, String when, int... want) {
        for (int what = 0; what < 4; what++) {
            c.due("count(" + what + ") " + when, x.count(what), want[what]);
        }
    }

    // ---- Terms 5

    private void justTheLines() {
        c.says("Terms 5", "A PROOF is RIGHT of a formula, if its lines are just those of a SET that is CLOSED, "
            + "begun with the SET of NO, each line by its rule, whichever FORMULA it is of:");
        ModalDesk x = needOfA();
        verifies(x, 1, 1, 7, 2, 6, 0, 4);
        verifies(x, 0);
        verifies(x, 0, 1, 7);
        verifies(x, 0, 1, 7, 2, 6);
        verifies(x, 0, 1, 7, 2, 6, 0, 4, 0, 4);
        verifies(x, 0, 1, 7, 2, 6, 0, 4, 2, 6);
        verifies(x, 0, 2, 6, 1, 7, 0, 4);
        // it is begun with NO, not with YES
        verifies(x, 0, 3, 5, 4, 3, 0, 4);
        verifies(x, 0, 2, 6, 0, 4);
        // what is RIGHT of one formula is not of another
        Checks.read(x, 1, "a>a");
        Checks.typeLines(x, 1, 7, 2, 6, 0, 4);
        c.due("verify(1)", x.verify(1), 0);
        // others than the tableau takes, and in another order: 4 (c&d), 15 (a&b), 16 (15&4), 17 (16&!a)
        ModalDesk y = new ModalDesk();
        Checks.read(y, 1, "c&d");
        Checks.read(y, 0, "!((a&b)&(c&d)&!a)");
        verifies(y, 1, 1, 17, 1, 16, 1, 4, 1, 15, 0, 12);
        verifies(y, 1, 1, 17, 1, 16, 1, 15, 0, 12);
        verifies(y, 1, 1, 17, 1, 16, 1, 15, 1, 4, 0, 12);
    }

    private void byClash() {
        c.says("Terms 5", "0: F or a letter that the SET has, of a letter also its opposite.");
        verifies(having("T"), 1, 0, 1);
        verifies(having("F"), 0, 0, 0);
        verifies(having("F"), 0, 0, 1);
        // 2 !a, 3 a, 4 (2|3), 5 (3&2)
        ModalDesk x = having("!(a&!a)");
        verifies(x, 1, 1, 5, 0, 3);
        verifies(x, 0, 1, 5, 0, 2);
        verifies(x, 0, 1, 5, 0, 5);
        verifies(x, 0, 1, 5, 0, 1);
        verifies(x, 0, 0, 3);
        // a letter without its opposite, the opposite without its letter
        verifies(having("!a"), 0, 0, 3);
        verifies(having("a"), 0, 0, 3);
        verifies(having("a"), 0, 0, 2);
        // 2 !a, 3 b, 4 (2|3), 5 a, 6 !b, 7 (5&6)
        ModalDesk y = having("a>b");
        verifies(y, 0, 1, 7, 0, 5);
        verifies(y, 0, 1, 7, 0, 3);
    }

    private void byBoth() {
        c.says("Terms 5", "1: a BOTH that it has: the lines of the SET with both parts.");
        ModalDesk x = eitherWay();
        verifies(x, 1, 1, 11, 1, 10, 3, 9, 0, 6, 0, 5);
        verifies(x, 0, 1, 10, 1, 11, 3, 9, 0, 6, 0, 5);
        verifies(x, 0, 1, 11, 1, 4, 3, 9, 0, 6, 0, 5);
        verifies(x, 0, 1, 11, 1, 10, 1, 9, 0, 6, 0, 5);
        verifies(x, 0, 1, 11, 1, 10, 1, 9, 0, 6);
        verifies(needOfA(), 0, 1, 7, 1, 6, 0, 4);
        verifies(having("T"), 0, 1, 1, 0, 1);
    }

    private void bySelf() {
        c.says("Terms 5", "2: a NEED that it has: likewise with its part.");
        ModalDesk x = needOfA();
        verifies(x, 1, 1, 7, 2, 6, 0, 4);
        verifies(x, 0, 1, 7, 0, 4);
        verifies(x, 0, 2, 7, 2, 6, 0, 4);
        verifies(x, 0, 1, 7, 2, 3, 0, 4);
        // a MAY is no NEED, a NEED that it has not is none
        ModalDesk y = needOfNeed();
        verifies(y, 0, 1, 9, 2, 8, 2, 3, 2, 5, 0, 4);
        verifies(y, 0, 1, 9, 2, 6, 2, 5, 0, 4);
    }

    private void byEither() {
        c.says("Terms 5", "3: an EITHER that it has: the lines of the SET with the first part, then of that with the second one.");
        ModalDesk x = eitherWay();
        verifies(x, 1, 1, 11, 3, 9, 1, 10, 0, 6, 1, 10, 0, 5);
        verifies(x, 0, 1, 11, 1, 10, 3, 9, 0, 5, 0, 6);
        verifies(x, 0, 1, 11, 1, 10, 3, 9, 0, 6);
        verifies(x, 0, 1, 11, 1, 10, 3, 9, 0, 6, 0, 5, 0, 5);
        // what came to the first SET is not in the second one
        verifies(x, 0, 1, 11, 3, 9, 1, 10, 0, 6, 0, 5);
        verifies(x, 0, 1, 11, 3, 10, 0, 6, 0, 5);
        verifies(x, 0, 1, 11, 1, 10, 3, 7, 0, 6, 0, 5);
        // one in another one
        verifies(x, 1, 1, 11, 1, 10, 3, 9, 3, 9, 0, 6, 0, 6, 0, 5);
    }

    private void byNext() {
        c.says("Terms 5", "4: a MAY that it has: the lines of the SET of its part and all NEEDS of this one.");
        ModalDesk x = needOfNeed();
        verifies(x, 1, 1, 9, 2, 5, 4, 8, 2, 5, 4, 3, 2, 5, 0, 4);
        verifies(x, 1, 1, 9, 4, 8, 4, 3, 2, 5, 0, 4);
        // no other FORMULA goes along: a letter, a BOTH, a MAY
        verifies(x, 0, 1, 9, 2, 5, 4, 8, 4, 3, 0, 4);
        verifies(x, 0, 1, 9, 4, 8, 1, 9, 4, 3, 2, 5, 0, 4);
        verifies(x, 0, 1, 9, 4, 8, 4, 8, 4, 3, 2, 5, 0, 4);
        // a NEED is no MAY, a MAY that it has not is none
        verifies(x, 0, 1, 9, 4, 5, 4, 3, 2, 5, 0, 4);
        verifies(x, 0, 1, 9, 4, 3, 2, 5, 0, 4);
        // 3 <>F: its START has F
        verifies(having("[]T"), 1, 4, 3, 0, 1);
        verifies(having("[]T"), 0, 4, 3, 4, 3, 0, 1);
    }

    private void partsThereAlready() {
        c.says("Terms 5", "(Parts may be there already.)");
        ModalDesk x = needOfA();
        verifies(x, 1, 1, 7, 1, 7, 2, 6, 2, 6, 1, 7, 0, 4);
        ModalDesk y = eitherWay();
        verifies(y, 1, 1, 11, 1, 10, 3, 9, 3, 9, 0, 6, 0, 6, 0, 5);
        verifies(y, 1, 1, 11, 1, 10, 3, 9, 0, 6, 3, 9, 0, 6, 0, 5);
        // the MAY of a where a is there, the NEED of !a twice
        ModalDesk z = having("!(a&<>a&[]!a)");
        int no = z.slot(0, 1);
        int inner = z.formula(no, 1);
        int need = z.formula(no, 2);
        int may = z.formula(inner, 2);
        int letter = z.formula(inner, 1);
        verifies(z, 1, 1, no, 1, inner, 4, may, 2, need, 0, letter);
        verifies(z, 1, 1, no, 1, inner, 2, need, 2, need, 0, letter);
    }

    /** NO is F&F, F|F, []F, <>F, F: any of them would be CLOSED, but each by its own rule alone. */
    private void eachRuleOfItsSort() {
        String[] texts = {"T", "!(F&F)", "![]F", "!(F|F)", "!<>F"};
        for (int sort = 0; sort < texts.length; sort++) {
            for (int rule = 0; rule <= 5; rule++) {
                ModalDesk x = having(texts[sort]);
                int no = x.slot(0, 1);
                verifies(x, rule == sort && rule == 0 ? 1 : 0, rule, no);
                verifies(x, rule == sort && rule != 0 && rule != 3 ? 1 : 0, rule, no, 0, 1);
                verifies(x, rule == sort && rule == 3 ? 1 : 0, rule, no, 0, 1, 0, 1);
            }
        }
    }

    private void bytesOfLines() {
        c.says("Terms 5", "In bytes a line is three: the rule, the number by 256, the number modulo 256.");
        // 262 FORMULAS, then 262 !b, 263 <>!b, 264 b, 265 .., 266 []b, 267 (266&262)
        ModalDesk x = new ModalDesk();
        Checks.read(x, 1, "a" + "&a".repeat(129));
        c.due("formulas()", x.formulas(), 262);
        Checks.read(x, 0, "[]b>b");
        c.due("prove(0, 2)", x.prove(0, 2), 1);
        c.due("proof()", x.proof(), 9);
        int[] bytes = {1, 1, 11, 2, 1, 10, 0, 1, 8};
        for (int i = 0; i < 9; i++) {
            c.due("out(" + i + ")", x.out(i), bytes[i]);
        }
        verifies(x, 1, 1, 267, 2, 266, 0, 264);
        verifies(x, 0, 1, 267, 2, 266, 0, 8);
        // numbers just below 256, then some on both sides of it: 250 !b, .., 255 (254&250)
        ModalDesk y = new ModalDesk();
        Checks.read(y, 1, "a" + "&a".repeat(123));
        Checks.read(y, 0, "[]b>b");
        c.due("slot(0, 1)", y.slot(0, 1), 255);
        verifies(y, 1, 1, 255, 2, 254, 0, 252);
        ModalDesk z = new ModalDesk();
        Checks.read(z, 1, "a" + "&a".repeat(123));
        Checks.read(z, 0, "c>([]b>b)");
        z.prove(0, 100);
        z.proof();
        z.take();
        c.due("verify(0)", z.verify(0), 1);
        // rules above 4, numbers above all
        ModalDesk w = needOfA();
        for (int rule : new int[] {5, 6, 128, 255}) {
            verifies(w, 0, 1, 7, rule, 6, 0, 4);
            verifies(w, 0, 1, 7, 2, 6, rule, 4);
        }
        for (int number : new int[] {8, 263, 299, 300, 319, 320, 65535}) {
            verifies(w, 0, 1, 7, 2, 6, 0, number);
            verifies(w, 0, 1, 7, 2, number, 0, 4);
        }
    }

    // ---- Promise 14

    private void fuel() {
        c.says("Promise 14", "The tableau of a slot's formula, with so many STEPS as fuel (1 .. 100000):");
        ModalDesk x = needOfA();
        c.due("prove(0, 1)", x.prove(0, 1), -3);
        c.due("prove(0, 2)", x.prove(0, 2), 1);
        c.due("prove(0, 100000)", x.prove(0, 100000), 1);
        c.due("prove(0, 0)", x.prove(0, 0), -1);
        c.due("prove(0, 100001)", x.prove(0, 100001), -1);
        // 1 is enough where none is needed
        ModalDesk y = having("T");
        c.due("prove(0, 1)", y.prove(0, 1), 1);
        c.due("count(0)", y.count(0), 0);
        // all of 100000 may be gone
        ModalDesk z = having(endless());
        c.due("prove(0, 100000)", z.prove(0, 100000), -3);
        c.due("count(0)", z.count(0), 100000);
        c.due("prove(0, 99999)", z.prove(0, 99999), -3);
        c.due("count(0)", z.count(0), 99999);
    }

    /** Of each of 128 ways first a world is OPEN after many STEPS, then another one is CLOSED. */
    private static String endless() {
        StringBuilder b = new StringBuilder("!(T");
        for (int i = 0; i < 7; i++) {
            b.append("&(").append((char) ('h' + i)).append("|").append((char) ('o' + i)).append(")");
        }
        b.append("&<>(d&[](<>a&<>b&<>c");
        for (char p = 'a'; p <= 'z'; p++) {
            b.append("&[](T|").append(p).append(")");
        }
        return b.append("))&<>(y&!y))").toString();
    }

    private void closed() {
        c.says("Promise 14", "1: it is CLOSED; the PROOF is at hand (and no model).");
        ModalDesk x = needOfA();
        Checks.read(x, 1, "a>[]a");
        c.due("prove(1, 100)", x.prove(1, 100), 0);
        c.due("prove(0, 100)", x.prove(0, 100), 1);
        c.due("proof()", x.proof(), 9);
        c.due("worlds()", x.worlds(), 0);
        c.throwsAtSees(x, 0, 0);
        c.throwsAtHolds(x, 0, 0);
        c.throwsAtWorld(x, 0, 3);
        c.throwsAtCut(x, 0);
        c.due("fold()", x.fold(), 0);
        c.due("proof() behind fold()", x.proof(), 9);
    }

    private void open() {
        c.says("Promise 14", "0: it is OPEN; the MODEL is at hand (and no proof).");
        ModalDesk x = needOfA();
        Checks.read(x, 1, "a>[]a");
        c.due("prove(0, 100)", x.prove(0, 100), 1);
        c.due("prove(1, 100)", x.prove(1, 100), 0);
        c.due("worlds()", x.worlds(), 2);
        c.due("holds(0, NO)", x.holds(0, x.slot(1, 1)), true);
        c.due("holds(0, YES)", x.holds(0, x.slot(1, 0)), false);
        c.due("proof()", x.proof(), -1);
        // a model takes the place of another one
        Checks.read(x, 2, "a");
        c.due("prove(2, 100)", x.prove(2, 100), 0);
        c.due("worlds()", x.worlds(), 1);
        c.throwsAtSees(x, 1, 0);
    }

    private void proveRefused() {
        c.says("Promise 14", "NONE: there is no such slot, it is empty, or another fuel.");
        ModalDesk x = needOfA();
        x.prove(0, 100);
        for (int slot : NO_SLOTS) {
            c.due("prove(" + slot + ", 100)", x.prove(slot, 100), -1);
        }
        for (int slot = 1; slot < 8; slot++) {
            c.due("prove(" + slot + ", 100), empty", x.prove(slot, 100), -1);
        }
        for (int fuel : new int[] {0, -1, MIN, 100001, MAX}) {
            c.due("prove(0, " + fuel + ")", x.prove(0, fuel), -1);
        }
        counts(x, "stays", 2, 1, 0, 1);
        c.due("proof() stays", x.proof(), 9);
    }

    private void atHandStays() {
        c.says("Promise 14", "-3: SPENT; -4: GREAT (in both what was at hand stays).");
        ModalDesk x = needOfA();
        Checks.read(x, 1, "[]".repeat(60) + "z");
        Checks.read(x, 2, "b>[]b");
        // nothing at hand
        c.due("prove(0, 1)", x.prove(0, 1), -3);
        c.due("prove(1, 100000)", x.prove(1, 100000), -4);
        c.due("proof()", x.proof(), -1);
        c.due("worlds()", x.worlds(), 0);
        // a proof at hand
        c.due("prove(0, 100)", x.prove(0, 100), 1);
        c.due("prove(1, 59)", x.prove(1, 59), -3);
        c.due("proof() behind -3", x.proof(), 9);
        c.due("prove(1, 60)", x.prove(1, 60), -4);
        c.due("proof() behind -4", x.proof(), 9);
        c.due("lines", Checks.toldLines(x), "1.7 2.6 0.4");
        c.due("worlds()", x.worlds(), 0);
        // a model at hand
        c.due("prove(2, 100)", x.prove(2, 100), 0);
        int size = x.world(0, 3);
        c.due("prove(0, 1)", x.prove(0, 1), -3);
        c.due("worlds() behind -3", x.worlds(), 2);
        c.due("prove(1, 100)", x.prove(1, 100), -4);
        c.due("worlds() behind -4", x.worlds(), 2);
        c.due("world(0, 3)", x.world(0, 3), size);
        c.due("sees(1, 0)", x.sees(1, 0), false);
        c.due("holds(0, NO)", x.holds(0, x.slot(2, 1)), true);
        c.due("proof()", x.proof(), -1);
        // a model that was cut
        x.cut(1);
        c.due("prove(1, 100)", x.prove(1, 100), -4);
        c.due("worlds()", x.worlds(), 1);
        c.due("world(0, 3)", x.world(0, 3), -1);
    }

    // ---- Promise 15

    private void count() {
        c.says("Promise 15", "Of the latest prove() that did not tell NONE, what 0: STEPS, 1: worlds that were begun "
            + "(those that are gone, too; world 0 counts), 2: MAYS that led back to a world (likewise), "
            + "3: the most worlds on one way.");
        ModalDesk x = having("a");
        x.prove(0, 1);
        counts(x, "of a", 0, 1, 0, 1);
        Checks.read(x, 0, "!([]<>a&[]<>!a)");
        x.prove(0, 100);
        counts(x, "of !([]<>a&[]<>!a)", 17, 5, 2, 3);
        // the same and <>F are gone, then c is OPEN
        Checks.read(x, 1, "!([]<>a&[]<>!a&<>F|c)");
        c.due("prove(1, 100)", x.prove(1, 100), 0);
        counts(x, "of what is gone", 21, 6, 2, 3);
        c.due("worlds()", x.worlds(), 1);
        // what tells NONE is no latest one
        x.prove(2, 100);
        x.prove(0, 0);
        x.prove(8, 100);
        counts(x, "behind NONE", 21, 6, 2, 3);
        // nor are fold and cut any
        x.fold();
        x.cut(0);
        counts(x, "behind fold and cut", 21, 6, 2, 3);
        // the longest way is not the last one
        Checks.read(x, 3, "!(<><><>a&<>b)");
        x.prove(3, 100);
        counts(x, "of two ways", 5, 5, 0, 4);
    }

    private void countOfNone() {
        c.says("Promise 15", "NONE for another what; 0 ahead of any.");
        ModalDesk x = new ModalDesk();
        counts(x, "ahead of any", 0, 0, 0, 0);
        x.prove(0, 100);
        counts(x, "behind NONE", 0, 0, 0, 0);
        for (int what : new int[] {4, 5, -1, MIN, MAX}) {
            c.due("count(" + what + ") ahead of any", x.count(what), -1);
        }
        Checks.read(x, 0, "!([]<>a&[]<>!a)");
        x.prove(0, 100);
        for (int what : new int[] {4, 5, -1, MIN, MAX}) {
            c.due("count(" + what + ")", x.count(what), -1);
        }
    }

    private void countOfStopped() {
        c.says("Promise 15", "(SPENT: STEPS are the fuel; GREAT: what there was by then, without what was too much.)");
        ModalDesk x = having("!([]<>a&[]<>!a)");
        // BOTH, two SELFS, then MAY, two SELFS, MAY, two SELFS, MAY back; and the same once more
        int[] begun = {1, 1, 1, 2, 2, 2, 3, 3, 3, 3, 4, 4, 4, 5, 5, 5};
        int[] back = {0, 0, 0, 0, 0, 0, 0, 0, 0, 1, 1, 1, 1, 1, 1, 1};
        int[] way = {1, 1, 1, 2, 2, 2, 3, 3, 3, 3, 3, 3, 3, 3, 3, 3};
        for (int fuel = 1; fuel <= 16; fuel++) {
            c.due("prove(0, " + fuel + ")", x.prove(0, fuel), -3);
            counts(x, "with " + fuel, fuel, begun[fuel - 1], back[fuel - 1], way[fuel - 1]);
        }
        c.due("prove(0, 17)", x.prove(0, 17), 0);
        // the 61st world is not begun, though its MAY was looked at
        ModalDesk y = having("[]".repeat(60) + "z");
        c.due("prove", y.prove(0, 100000), -4);
        counts(y, "of a 61st world", 60, 60, 0, 60);
        c.due("prove", y.prove(0, 59), -3);
        counts(y, "with 59", 59, 60, 0, 60);
    }

    // ---- Promise 16

    private void proof() {
        c.says("Promise 16", "OUT is the PROOF at hand, in bytes: how many.");
        ModalDesk x = having("T");
        x.prove(0, 1);
        c.due("proof() of one line", x.proof(), 3);
        c.due("OUT", Checks.toldLines(x), "0.1");
        c.due("out(3)", x.out(3), -1);
        // it is at hand still, whatever comes to OUT, to the slot or to the tape
        x.tell(1);
        Checks.read(x, 0, "a&b");
        c.due("proof()", x.proof(), 3);
        c.due("OUT", Checks.toldLines(x), "0.1");
        ModalDesk y = EdgesOfTape.longestProof();
        c.due("proof() of 1299 lines", y.proof(), 3897);
        c.due("out(3896)", y.out(3896) >= 0, true);
        c.due("out(3897)", y.out(3897), -1);
        y.take();
        c.due("verify(0)", y.verify(0), 1);
        // a shorter one leaves nothing of a longer one
        y.set(1, 0);
        y.prove(1, 1);
        c.due("proof() of one line", y.proof(), 3);
        c.due("out(3)", y.out(3), -1);
    }

    private void proofOfNone() {
        c.says("Promise 16", "NONE, and OUT stays, without one.");
        ModalDesk x = needOfA();
        c.due("proof() ahead of any prove", x.proof(), -1);
        c.due("out(0)", x.out(0), -1);
        x.tell(7);
        c.due("prove(0, 1)", x.prove(0, 1), -3);
        c.due("proof() behind -3", x.proof(), -1);
        c.due("OUT stays", Checks.told(x), "([]a&!a)");
        x.set(1, 1);
        c.due("prove(1, 1)", x.prove(1, 1), 0);
        c.due("proof() behind 0", x.proof(), -1);
        c.due("OUT stays", Checks.told(x), "([]a&!a)");
    }

    // ---- Promise 17

    private void verify() {
        c.says("Promise 17", "The tape is taken: 1 if it is a PROOF, RIGHT of a slot's formula, else 0.");
        ModalDesk x = needOfA();
        Checks.typeLines(x, 1, 7, 2, 6, 0, 4);
        c.due("verify(0)", x.verify(0), 1);
        c.due("the tape is empty", x.end(1), -1);
        c.due("verify(0) of an empty tape", x.verify(0), 0);
        Checks.typeLines(x, 1, 7);
        c.due("verify(0)", x.verify(0), 0);
        c.due("the tape is empty", x.end(1), -1);
        // no line is of one byte, or of two
        for (int more = 1; more <= 2; more++) {
            Checks.type(x, "\1\0\7\2\0\6\0\0\4" + "\0".repeat(more));
            c.due("verify(0) of " + more + " bytes more", x.verify(0), 0);
            Checks.type(x, "\1\0\7\2\0\6\0\0\4".substring(0, 9 - more));
            c.due("verify(0) of " + more + " bytes less", x.verify(0), 0);
        }
        // of the last slot as of the first one; and no proof at hand is asked for
        x.set(7, x.slot(0, 0));
        Checks.typeLines(x, 1, 7, 2, 6, 0, 4);
        c.due("verify(7)", x.verify(7), 1);
        c.due("proof()", x.proof(), -1);
        // a text is no proof
        Checks.type(x, "[]a>a");
        c.due("verify(0) of a text", x.verify(0), 0);
    }

    private void verifyLong() {
        parted(666, 667, 1);
        parted(666, 666, 0);
        parted(665, 666, 1);
        parted(665, 667, 0);
        parted(667, 666, 0);
        parted(1333, 0, 0);
        parted(1, 2, 1);
        ModalDesk x = needOfA();
        int[] lines = new int[2 * 1333];
        for (int i = 0; i < 1331; i++) {
            lines[2 * i] = 1;
            lines[2 * i + 1] = 7;
        }
        lines[2 * 1331] = 2;
        lines[2 * 1331 + 1] = 6;
        lines[2 * 1332 + 1] = 4;
        verifiesLong(x, 1, lines);
        x.feed(0, 0, 0, 0, 0);
        for (int n = 40; n <= 4000; n += 20) {
            x.feed(0, 0, 0, 0, 0);
        }
        c.due("verify(0) of 4000 bytes", x.verify(0), 0);
    }

    private void verifiesLong(ModalDesk x, int want, int... lines) {
        Checks.typeLines(x, lines);
        c.due("verify of " + lines.length / 2 + " lines", x.verify(0), want);
    }

    /** NO is (F|F), which may be parted again and again. */
    private void parted(int parted, int closed, int want) {
        ModalDesk x = having("!(F|F)");
        int f = x.slot(0, 1);
        int[] lines = new int[2 * (parted + closed)];
        for (int i = 0; i < parted + closed; i++) {
            lines[2 * i] = i < parted ? 3 : 0;
            lines[2 * i + 1] = i < parted ? f : 1;
        }
        Checks.typeLines(x, lines);
        c.due("verify of " + parted + " parted, " + closed + " closed", x.verify(0), want);
    }

    private void verifyRefused() {
        c.says("Promise 17", "NONE: there is no such slot, or it is empty (the tape stays).");
        ModalDesk x = needOfA();
        Checks.typeLines(x, 1, 7, 2, 6, 0, 4);
        for (int slot : NO_SLOTS) {
            c.due("verify(" + slot + ")", x.verify(slot), -1);
        }
        for (int slot = 1; slot < 8; slot++) {
            c.due("verify(" + slot + "), empty", x.verify(slot), -1);
        }
        c.due("the tape stays", x.end(9), 9);
        c.due("verify(0)", x.verify(0), 1);
    }
}
