/** Promises 9 to 13: set, slot, formulas, formula, tell. */
public final class FormulaTest {
    private static final Checks c = new Checks();

    public static void main(String[] args) {
        set();
        setWithoutRoom();
        slot();
        formula();
        tell();
        tellLong();
        c.end("FormulaTest");
    }

    private static void set() {
        ModalDesk x = new ModalDesk();
        Checks.read(x, 0, "[](a&!b)>c");
        // 2 !a, 3 b, 4 (!a|b), 5 <>4, 6 c, 7 (5|6); 8 a, 9 !b, 10 (a&!b), 11 []10, 12 !c, 13 (11&12)
        c.due("formulas()", x.formulas(), 14);
        c.due("set(1, 0)", x.set(1, 0), 1);
        c.due("slot(1, 0)", x.slot(1, 0), 0);
        c.due("set(1, 1)", x.set(1, 1), 0);
        c.due("set(1, 2): of an opposite the letter", x.set(1, 2), 8);
        c.due("set(1, 8): of a letter the opposite", x.set(1, 8), 2);
        c.due("set(1, 13)", x.set(1, 13), 7);
        c.due("slot(1, 0)", x.slot(1, 0), 13);
        c.due("slot(1, 1)", x.slot(1, 1), 7);
        c.due("set(1, 7)", x.set(1, 7), 13);
        c.due("nothing was made", x.formulas(), 14);
        c.due("prove of what was set", x.prove(1, 100), 0);
        c.due("set(-1, 0)", x.set(-1, 0), -1);
        c.due("set(8, 0)", x.set(8, 0), -1);
        c.due("set(0, 14)", x.set(0, 14), -1);
        c.due("set(0, -1)", x.set(0, -1), -1);
        c.due("set(0, MAX)", x.set(0, Integer.MAX_VALUE), -1);
        c.due("slot(0, 0) stays", x.slot(0, 0), 7);
        c.due("set is no read", x.fault(0), 0);
    }

    /** Every formula has its NO from the read that made it, so nothing is made even where there is no room. */
    private static void setWithoutRoom() {
        ModalDesk x = new ModalDesk();
        Checks.read(x, 0, "a" + Checks.repeat("&a", 148));
        c.due("formulas()", x.formulas(), 300);
        for (int f = 0; f < 300; f += 13) {
            int no = x.set(1, f);
            c.due("set(2, set(1, " + f + "))", x.set(2, no), f);
        }
        c.due("formulas()", x.formulas(), 300);
    }

    private static void slot() {
        ModalDesk x = new ModalDesk();
        Checks.read(x, 3, "a");
        c.due("slot(3, 0)", x.slot(3, 0), 2);
        c.due("slot(3, 1)", x.slot(3, 1), 3);
        c.due("slot(3, 2)", x.slot(3, 2), -1);
        c.due("slot(3, -1)", x.slot(3, -1), -1);
        c.due("slot(2, 0)", x.slot(2, 0), -1);
        c.due("slot(-1, 0)", x.slot(-1, 0), -1);
        c.due("slot(8, 1)", x.slot(8, 1), -1);
        c.due("slot(MAX, 1)", x.slot(Integer.MAX_VALUE, 1), -1);
        Checks.read(x, 3, "!b");
        c.due("slot(3, 0) anew", x.slot(3, 0), 4);
        c.due("slot(3, 1) anew", x.slot(3, 1), 5);
    }

    private static void formulaIs(ModalDesk x, int f, int sort, int first, int second) {
        c.due("formula(" + f + ", 0)", x.formula(f, 0), sort);
        c.due("formula(" + f + ", 1)", x.formula(f, 1), first);
        c.due("formula(" + f + ", 2)", x.formula(f, 2), second);
    }

    private static void formula() {
        ModalDesk x = new ModalDesk();
        Checks.read(x, 0, "[](a&!b)>z");
        formulaIs(x, 0, 0, -1, -1);
        formulaIs(x, 1, 1, -1, -1);
        formulaIs(x, 2, 3, 0, -1);
        formulaIs(x, 3, 2, 1, -1);
        formulaIs(x, 4, 5, 2, 3);
        formulaIs(x, 5, 7, 4, -1);
        formulaIs(x, 6, 2, 25, -1);
        formulaIs(x, 7, 5, 5, 6);
        formulaIs(x, 8, 2, 0, -1);
        formulaIs(x, 9, 3, 1, -1);
        formulaIs(x, 10, 4, 8, 9);
        formulaIs(x, 11, 6, 10, -1);
        formulaIs(x, 12, 3, 25, -1);
        formulaIs(x, 13, 4, 11, 12);
        formulaIs(x, 14, -1, -1, -1);
        formulaIs(x, -1, -1, -1, -1);
        formulaIs(x, Integer.MIN_VALUE, -1, -1, -1);
        c.due("formula(4, 3)", x.formula(4, 3), -1);
        c.due("formula(4, -1)", x.formula(4, -1), -1);
        c.due("formulas()", x.formulas(), 14);
    }

    private static void tell() {
        ModalDesk x = new ModalDesk();
        Checks.read(x, 0, "[](a&!b)>(z|T&F)");
        int f = x.slot(0, 0);
        String text = "(<>(!a|b)|(z|(T&F)))";
        c.due("tell", x.tell(f), text.length());
        c.due("OUT", Checks.told(x), text);
        c.due("tell of none", x.tell(x.formulas()), -1);
        c.due("tell(-1)", x.tell(-1), -1);
        c.due("OUT stays", Checks.told(x), text);
        c.due("tell(0)", x.tell(0), 1);
        c.due("OUT", Checks.told(x), "T");
        c.due("tell(1)", x.tell(1), 1);
        c.due("OUT", Checks.told(x), "F");
        // what is told is read as what it was
        for (int g = 0; g < x.formulas(); g++) {
            x.tell(g);
            x.take();
            c.due("read of what was told", x.read(1, false), g);
        }
    }

    private static void tellLong() {
        ModalDesk x = new ModalDesk();
        // ((((a=a)=a)=a) ..: texts that double with every step
        Checks.read(x, 0, "a" + Checks.repeat("=a", 12));
        int f = x.slot(0, 0);
        c.due("tell of a long one", x.tell(f), 400);
        c.due("out(399)", x.out(399) != -1, true);
        c.due("out(400)", x.out(400), -1);
        c.due("its beginning", Checks.told(x).substring(0, 4), "((((");
        c.due("read of half a text", x.take(), 400);
        c.due("is a fault", x.read(1, false), -2);
        c.due("at its end", x.fault(1), 400);
        length(201, Checks.repeat("(b&", 50) + "b" + Checks.repeat(")", 50));
        length(59 * 4 + 1 + 40 * 4, Checks.repeat("(b&", 59) + "b" + Checks.repeat("&a", 40) + Checks.repeat(")", 59));
        // just 400 bytes, then two more
        String inner = Checks.repeat("(b&", 57) + "b" + Checks.repeat("&a", 41) + Checks.repeat(")", 57);
        c.due("out(399) of 400", length(400, "[](" + inner + "|!z)").out(399), ')');
        ModalDesk y = length(400, "[][](" + inner + "|!z)");
        c.due("out(399) of 402", y.out(399), '!');
        c.due("out(400) of 402", y.out(400), -1);
        c.due("out(399), half of a sign", length(400, "((" + inner + "|b)|[]c)").out(399), '[');
    }

    private static ModalDesk length(int want, String text) {
        ModalDesk x = new ModalDesk();
        Checks.read(x, 0, text);
        c.due("tell of " + text, x.tell(x.slot(0, 0)), want);
        return x;
    }
}
