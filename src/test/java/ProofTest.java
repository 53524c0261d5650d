/** Promises 14 to 17: prove, count, proof, verify. */
public final class ProofTest {
    private static final Checks c = new Checks();

    public static void main(String[] args) {
        refusals();
        laws();
        noLaws();
        linesOfProofs();
        clashOfTheLeast();
        orderOfWork();
        fuel();
        whatIsAtHand();
        verify();
        verifyLong();
        c.end("ProofTest");
    }

    private static void refusals() {
        ModalDesk x = new ModalDesk();
        Checks.read(x, 0, "a");
        c.due("prove(0, 0)", x.prove(0, 0), -1);
        c.due("prove(0, -5)", x.prove(0, -5), -1);
        c.due("prove(0, 100001)", x.prove(0, 100001), -1);
        c.due("prove(1, 10)", x.prove(1, 10), -1);
        c.due("prove(-1, 10)", x.prove(-1, 10), -1);
        c.due("prove(8, 10)", x.prove(8, 10), -1);
        c.due("count(1) ahead of any", x.count(1), 0);
        c.due("prove(0, 100000)", x.prove(0, 100000), 0);
        c.due("count(1)", x.count(1), 1);
        c.due("count(-1)", x.count(-1), -1);
        c.due("count(4)", x.count(4), -1);
        x.prove(0, 0);
        c.due("count(1) stays", x.count(1), 1);
    }

    private static void verdict(String text, boolean intuitionistic, int want) {
        ModalDesk x = new ModalDesk();
        Checks.type(x, text);
        x.read(0, intuitionistic);
        c.due("prove of " + text, x.prove(0, 20000), want);
        if (want == 1) {
            c.due("proof() of " + text, x.proof() > 0, true);
            x.take();
            c.due("verify of " + text, x.verify(0), 1);
        } else {
            c.due("proof() of " + text, x.proof(), -1);
            c.due("the model of " + text, x.holds(0, x.slot(0, 1)), true);
            c.due("the model of " + text, x.holds(0, x.slot(0, 0)), false);
        }
    }

    private static void laws() {
        String[] laws = {"T", "!F", "a>a", "[]a>a", "a><>a", "[]a>[][]a", "<><>a><>a", "[](a>b)>([]a>[]b)",
            "[]<>[]<>a=[]<>a", "<>[]<>[]a=<>[]a", "[](a&b)=([]a&[]b)", "<>(a|b)=(<>a|<>b)", "!<>a=[]!a",
            "[]a|[]b>[](a|b)", "((a>b)>a)>a", "a|!a"};
        for (String law : laws) {
            verdict(law, false, 1);
        }
        String[] intuitionistic = {"a>a", "a>!!a", "!!!a=!a", "!!(a|!a)", "(a>b)>(!b>!a)", "!!(((a>b)>a)>a)",
            "(a&b>c)=(a>b>c)", "F>a", "!(a&!a)", "(a|b>c)=((a>c)&(b>c))", "!!(!!a>a)"};
        for (String law : intuitionistic) {
            verdict(law, true, 1);
        }
    }

    private static void noLaws() {
        String[] texts = {"F", "a", "a>[]a", "<>a>a", "<>a>[]<>a", "[]<>a><>[]a", "<>[]a>[]<>a", "[](a|b)>([]a|[]b)",
            "[]([](a>[]a)>a)>a", "<>a&<>b><>(a&b)", "a><>b"};
        for (String text : texts) {
            verdict(text, false, 0);
        }
        String[] intuitionistic = {"a", "a|!a", "!!a>a", "((a>b)>a)>a", "!a|!!a", "(a>b)|(b>a)", "(!b>!a)>(a>b)",
            "!(a&b)>(!a|!b)", "(a>b|c)>((a>b)|(a>c))"};
        for (String text : intuitionistic) {
            verdict(text, true, 0);
        }
    }

    private static void counts(ModalDesk x, String of, int steps, int worlds, int back, int way) {
        c.due("count(0) of " + of, x.count(0), steps);
        c.due("count(1) of " + of, x.count(1), worlds);
        c.due("count(2) of " + of, x.count(2), back);
        c.due("count(3) of " + of, x.count(3), way);
    }

    private static void lines(String text, String want, int steps, int worlds, int back, int way) {
        ModalDesk x = new ModalDesk();
        Checks.read(x, 0, text);
        c.due("prove of " + text, x.prove(0, 1000), 1);
        counts(x, text, steps, worlds, back, way);
        c.due("proof() of " + text, x.proof(), 3 * want.split(" ").length);
        c.due("lines of " + text, Checks.toldLines(x), want);
    }

    private static void linesOfProofs() {
        lines("!F", "0.1", 0, 1, 0, 1);
        lines("T", "0.1", 0, 1, 0, 1);
        // 2 !a, 3 <>!a, 4 a, 5 (3|4); 6 []a, 7 (6&2)
        lines("[]a>a", "1.7 2.6 0.4", 2, 1, 0, 1);
        // 2 !a, 3 <>2, 4 a, 5 []4, 6 []5, 7 (3|6); 8 <>2=3, so NO: <>3 is 8, (5&8) is 9
        lines("[]a>[][]a", "1.9 2.5 4.8 2.5 4.3 2.5 0.4", 6, 3, 0, 3);
        // 2 a, 3 b, 4 (a|b) ..: NO of (a|b)>(b|a)
        // YES: 2 !a, 3 !b, 4 (!a&!b), 5 b, 6 a, 7 (b|a), 8; NO: 9 (a|b), 10 (!b&!a), 11 (9&10)
        lines("a|b>b|a", "1.11 1.10 3.9 0.6 0.5", 4, 1, 0, 1);
    }

    private static void clashOfTheLeast() {
        // 2 b, 3 !b, 4 a, 5 !a: both letters clash at once, and of their numbers 2 is the least
        ModalDesk x = new ModalDesk();
        Checks.read(x, 1, "b");
        Checks.read(x, 1, "a");
        Checks.read(x, 0, "!((a&b)&(!a&!b))");
        c.due("prove", x.prove(0, 100), 1);
        x.proof();
        String lines = Checks.toldLines(x);
        c.due("the clash is b's", lines.substring(lines.lastIndexOf(' ') + 1), "0.2");
        // the opposite's number is the least, but the letter's is told
        ModalDesk y = new ModalDesk();
        Checks.read(y, 1, "!c");
        Checks.read(y, 0, "!(c&!c)");
        c.due("prove", y.prove(0, 100), 1);
        y.proof();
        c.due("lines", Checks.toldLines(y), "1.5 0.3");
        // F is told ahead of letters
        ModalDesk z = new ModalDesk();
        Checks.read(z, 0, "!((a&!a)&F)");
        z.prove(0, 100);
        z.proof();
        lines = Checks.toldLines(z);
        c.due("F's clash", lines.substring(lines.length() - 3), "0.1");
        c.due("and nothing is done behind it", lines.split(" ").length, 2);
    }

    private static void orderOfWork() {
        // SELF ahead of EITHER, EITHER ahead of NEXT, though the numbers are the other way round
        ModalDesk x = new ModalDesk();
        Checks.read(x, 1, "<>a");
        Checks.read(x, 1, "b|c");
        Checks.read(x, 1, "[]!c");
        Checks.read(x, 1, "[]!b");
        Checks.read(x, 0, "!(<>a&(b|c)&[]!c&[]!b)");
        c.due("prove", x.prove(0, 100), 1);
        x.proof();
        String[] lines = Checks.toldLines(x).split(" ");
        StringBuilder rules = new StringBuilder();
        for (String line : lines) {
            rules.append(line.charAt(0));
        }
        c.due("rules", rules.toString(), "111223" + "0" + "0");
        counts(x, "it", 7, 1, 0, 1);
        // a MAY whose part is there is not looked at, the others are by their numbers
        ModalDesk y = new ModalDesk();
        Checks.read(y, 0, "!(a&<>a&<>b&<>!b)");
        c.due("prove", y.prove(0, 100), 0);
        counts(y, "a&<>a&<>b&<>!b", 5, 3, 0, 2);
        c.due("the first world begun is b's", y.holds(1, y.formula(findMay(y, 2, 1), 1)), true);
        // worlds that were begun from what is CLOSED are counted, but gone
        ModalDesk z = new ModalDesk();
        Checks.read(z, 0, "!(<>a&<>(b&!b))");
        c.due("prove", z.prove(0, 100), 1);
        counts(z, "<>a&<>(b&!b)", 4, 3, 0, 2);
        z.proof();
        c.due("lines", Checks.toldLines(z).split(" ").length, 4);
    }

    /** The MAY of a letter (sort 2) or of an opposite (sort 3). */
    private static int findMay(ModalDesk x, int sort, int letter) {
        for (int f = 0; f < x.formulas(); f++) {
            int part = x.formula(f, 1);
            if (x.formula(f, 0) == 7 && x.formula(part, 0) == sort && x.formula(part, 1) == letter) {
                return f;
            }
        }
        return -1;
    }

    private static void fuel() {
        ModalDesk x = new ModalDesk();
        Checks.read(x, 0, "[]a>[][]a");
        for (int fuel = 1; fuel < 6; fuel++) {
            c.due("prove(0, " + fuel + ")", x.prove(0, fuel), -3);
            c.due("STEPS are the fuel", x.count(0), fuel);
        }
        counts(x, "5 STEPS", 5, 3, 0, 3);
        c.due("no proof", x.proof(), -1);
        c.due("prove(0, 6)", x.prove(0, 6), 1);
        counts(x, "6 STEPS", 6, 3, 0, 3);
        // the second SET of an EITHER is a STEP, too
        Checks.read(x, 1, "a|b>b|a");
        c.due("prove(1, 3)", x.prove(1, 3), -3);
        c.due("prove(1, 4)", x.prove(1, 4), 1);
        // no STEP is needed
        Checks.read(x, 2, "T");
        c.due("prove(2, 1)", x.prove(2, 1), 1);
        counts(x, "T", 0, 1, 0, 1);
    }

    private static void whatIsAtHand() {
        ModalDesk x = new ModalDesk();
        Checks.read(x, 0, "[]a>a");
        Checks.read(x, 1, "a>[]a");
        Checks.read(x, 2, "[]<>[]<>b=[]<>b");
        x.prove(0, 100);
        c.due("proof()", x.proof(), 9);
        c.due("prove(2, 3)", x.prove(2, 3), -3);
        c.due("proof() stays", x.proof(), 9);
        c.due("worlds()", x.worlds(), 0);
        x.prove(1, 100);
        c.due("worlds()", x.worlds(), 2);
        c.due("proof()", x.proof(), -1);
        c.due("OUT stays", x.out(0), 1);
        c.due("prove(2, 3)", x.prove(2, 3), -3);
        c.due("worlds() stay", x.worlds(), 2);
        c.due("world(0, 3) stays", x.world(0, 3), 3);
        c.due("prove(3, 3) of an empty slot", x.prove(3, 3), -1);
        c.due("worlds() stay", x.worlds(), 2);
        c.due("prove(0, 100)", x.prove(0, 100), 1);
        c.due("worlds()", x.worlds(), 0);
        c.due("fold()", x.fold(), 0);
        c.throwsAtSees(x, 0, 0);
        // what is read later changes no proof
        Checks.read(x, 0, "c");
        c.due("proof()", x.proof(), 9);
    }

    private static void right(ModalDesk x, int slot, int want, int... lines) {
        Checks.typeLines(x, lines);
        StringBuilder b = new StringBuilder("verify of");
        for (int line : lines) {
            b.append(' ').append(line);
        }
        c.due(b.toString(), x.verify(slot), want);
        c.due("the tape is taken", x.end(1), -1);
    }

    private static void verify() {
        ModalDesk x = new ModalDesk();
        // 2 !a, 3 <>!a, 4 a, 5 (3|4); 6 []a, 7 (6&2)
        Checks.read(x, 0, "[]a>a");
        right(x, 0, 1, 1, 7, 2, 6, 0, 4);
        right(x, 0, 1, 1, 7, 1, 7, 2, 6, 2, 6, 0, 4);
        right(x, 0, 0, 1, 7, 2, 6);
        right(x, 0, 0, 1, 7, 2, 6, 0, 4, 0, 4);
        right(x, 0, 0, 1, 7, 2, 6, 0, 2);
        right(x, 0, 0, 2, 6, 0, 4);
        right(x, 0, 0, 2, 7, 2, 6, 0, 4);
        right(x, 0, 0, 1, 7, 1, 6, 0, 4);
        right(x, 0, 0, 1, 7, 5, 6, 0, 4);
        right(x, 0, 0, 1, 7, 2, 6, 0, 8);
        right(x, 0, 0, 1, 7, 2, 6, 0, 4 + 256);
        right(x, 0, 0, 1, 7, 2, 6, 0, 1);
        right(x, 0, 0);
        right(x, 0, 0, 1, 7, 2, 6, 0, 65535);
        Checks.type(x, "\1\0\7\2\0\6\0\0");
        c.due("verify of 8 bytes", x.verify(0), 0);
        Checks.type(x, "\1\0\7\2\0\6\0\0\4\0");
        c.due("verify of 10 bytes", x.verify(0), 0);
        Checks.typeLines(x, 1, 7, 2, 6, 0, 4);
        c.due("verify(1) of an empty slot", x.verify(1), -1);
        c.due("verify(8)", x.verify(8), -1);
        c.due("verify(-1)", x.verify(-1), -1);
        c.due("the tape stays", x.verify(0), 1);
        // EITHER: the first SET's lines, then the second one's; NEXT: only NEEDS and the part go along
        // 2 !a, 3 !b, 4 (!a&!b), 5 b, 6 a, 7 (b|a), 8; NO: 9 (a|b), 10 (!b&!a), 11 (9&10)
        Checks.read(x, 2, "T");
        ModalDesk y = new ModalDesk();
        Checks.read(y, 0, "a|b>b|a");
        right(y, 0, 1, 1, 11, 1, 10, 3, 9, 0, 6, 0, 5);
        right(y, 0, 1, 1, 11, 3, 9, 1, 10, 0, 6, 1, 10, 0, 5);
        right(y, 0, 0, 1, 11, 1, 10, 3, 9, 0, 5, 0, 6);
        right(y, 0, 0, 1, 11, 1, 10, 3, 9, 0, 6);
        right(y, 0, 0, 1, 11, 3, 9, 1, 10, 0, 6, 0, 5);
        right(y, 0, 0, 1, 11, 3, 10, 0, 6, 0, 5);
        nextGoesAlone();
    }

    private static void nextGoesAlone() {
        // YES: 2 !a, 3 <>!a, 4 a, 5 [][]..: as in the tableau's own proof of []a>[][]a
        ModalDesk x = new ModalDesk();
        Checks.read(x, 0, "[]a>[][]a");
        right(x, 0, 1, 1, 9, 2, 5, 4, 8, 2, 5, 4, 3, 2, 5, 0, 4);
        right(x, 0, 1, 1, 9, 4, 8, 4, 3, 2, 5, 0, 4);
        right(x, 0, 0, 1, 9, 2, 5, 4, 8, 4, 3, 0, 4);
        right(x, 0, 0, 1, 9, 4, 8, 1, 9, 4, 3, 2, 5, 0, 4);
        right(x, 0, 0, 1, 9, 4, 5, 4, 3, 2, 5, 0, 4);
    }

    private static void verifyLong() {
        parted(1, 2, 1);
        parted(1, 1, 0);
        parted(1, 3, 0);
        parted(500, 501, 1);
        parted(666, 667, 1);
        parted(666, 666, 0);
        parted(667, 666, 0);
        parted(1333, 0, 0);
    }

    /** NO is (F|F), which may be parted again and again. */
    private static void parted(int parted, int closed, int want) {
        ModalDesk x = new ModalDesk();
        Checks.read(x, 0, "!(F|F)");
        int f = x.slot(0, 1);
        int[] lines = new int[2 * (parted + closed)];
        for (int i = 0; i < parted + closed; i++) {
            lines[2 * i] = i < parted ? 3 : 0;
            lines[2 * i + 1] = i < parted ? f : 1;
        }
        Checks.typeLines(x, lines);
        c.due("verify of " + parted + " parted, " + closed + " closed", x.verify(0), want);
    }
}
