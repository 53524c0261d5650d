/** Promises 7 and 8: read, fault. */
public final class ReadTest {
    private static final Checks c = new Checks();

    public static void main(String[] args) {
        numbers();
        binding();
        intuitionistic();
        faults();
        opens();
        lengths();
        tooMany();
        refusals();
        c.end("ReadTest");
    }

    private static void numbers() {
        ModalDesk x = new ModalDesk();
        c.due("read a=b", Checks.read(x, 0, "a=b"), 8);
        String[] made = {"T", "F", "!a", "b", "(!a|b)", "a", "!b", "(a|!b)", "((!a|b)&(a|!b))", "(a&!b)", "(!a&b)",
            "((a&!b)|(!a&b))"};
        c.due("formulas()", x.formulas(), made.length);
        for (int f = 0; f < made.length; f++) {
            c.due("text of " + f, Checks.textOf(x, f), made[f]);
        }
        c.due("slot(0, 1)", x.slot(0, 1), 11);
        c.due("read !a again", Checks.read(x, 1, "! a"), 2);
        c.due("its NO", x.slot(1, 1), 5);
        c.due("read !(b = !a)", Checks.read(x, 2, "!(b=!a)"), 14);
        c.due("text of 14", Checks.textOf(x, 14), "((b&a)|(!b&!a))");
        c.due("text of its NO", Checks.textOf(x, x.slot(2, 1)), "((!b|!a)&(b|a))");
        c.due("read F", Checks.read(x, 3, "F"), 1);
        c.due("its NO", x.slot(3, 1), 0);
        c.due("read <>[]T", Checks.read(x, 4, "<>[]T"), 19);
        c.due("its text", Checks.textOf(x, 19), "<>[]T");
        c.due("its NO", Checks.textOf(x, x.slot(4, 1)), "[]<>F");
        c.due("formulas()", x.formulas(), 22);
    }

    private static void text(String text, String yes, String no) {
        ModalDesk x = new ModalDesk();
        int f = Checks.read(x, 7, text);
        c.due("YES of " + text, Checks.textOf(x, f), yes);
        c.due("NO of " + text, Checks.textOf(x, x.slot(7, 1)), no);
        c.due("fault(0) of " + text, x.fault(0), 0);
        c.due("fault(1) of " + text, x.fault(1), -1);
    }

    private static void binding() {
        text("a&b&c", "((a&b)&c)", "((!a|!b)|!c)");
        text("a|b|c", "((a|b)|c)", "((!a&!b)&!c)");
        text("a>b>c", "(!a|(!b|c))", "(a&(b&!c))");
        text("(a>b)>c", "((a&!b)|c)", "((!a|b)&!c)");
        text("a|b&c", "(a|(b&c))", "(!a&(!b|!c))");
        text("a&b|c", "((a&b)|c)", "((!a|!b)&!c)");
        text("a|b>c|d", "((!a&!b)|(c|d))", "((a|b)&(!c&!d))");
        text("a>b=c", "(((a&!b)|c)&((!a|b)|!c))", "(((!a|b)&!c)|((a&!b)&c))");
        text("a=b>c", "((!a|(!b|c))&(a|(b&!c)))", "((a&(b&!c))|(!a&(!b|c)))");
        text("a&b|c>d=e", "(((((a&b)|c)&!d)|e)&((((!a|!b)&!c)|d)|!e))",
            "(((((!a|!b)&!c)|d)&!e)|((((a&b)|c)&!d)&e))");
        text("a=b=T", "((((a&!b)|(!a&b))|T)&(((!a|b)&(a|!b))|F))", "((((!a|b)&(a|!b))&F)|(((a&!b)|(!a&b))&T))");
        text("!a&b", "(!a&b)", "(a|!b)");
        text("!!a", "a", "!a");
        text("[]a&b", "([]a&b)", "(<>!a|!b)");
        text("[](a&b)", "[](a&b)", "<>(!a|!b)");
        text("<>!a>b", "([]a|b)", "(<>!a&!b)");
        text(" \n( [] <> ! z )\n ", "[]<>!z", "<>[]z");
        text("((a))", "a", "!a");
    }

    private static void intuitionisticText(String text, String yes, String no) {
        ModalDesk x = new ModalDesk();
        int f = Checks.readIntuitionistic(x, 0, text);
        c.due("YES of intuitionistic " + text, Checks.textOf(x, f), yes);
        c.due("NO of intuitionistic " + text, Checks.textOf(x, x.slot(0, 1)), no);
    }

    private static void intuitionistic() {
        intuitionisticText("a", "[]a", "<>!a");
        intuitionisticText("T", "T", "F");
        intuitionisticText("F", "F", "T");
        intuitionisticText("!a", "[]<>!a", "<>[]a");
        intuitionisticText("!F", "[]T", "<>F");
        intuitionisticText("a&b", "([]a&[]b)", "(<>!a|<>!b)");
        intuitionisticText("a|b", "([]a|[]b)", "(<>!a&<>!b)");
        intuitionisticText("a>b", "[](<>!a|[]b)", "<>([]a&<>!b)");
        intuitionisticText("a=b", "([](<>!a|[]b)&[](<>!b|[]a))", "(<>([]a&<>!b)|<>([]b&<>!a))");
        intuitionisticText("a>b>c", "[](<>!a|[](<>!b|[]c))", "<>([]a&<>([]b&<>!c))");
        ModalDesk x = new ModalDesk();
        c.due("read a=b", Checks.readIntuitionistic(x, 0, "a=b"), 14);
        String[] made = {"T", "F", "!a", "<>!a", "b", "[]b", "(<>!a|[]b)", "[](<>!a|[]b)", "!b", "<>!b", "a", "[]a",
            "(<>!b|[]a)", "[](<>!b|[]a)", "([](<>!a|[]b)&[](<>!b|[]a))"};
        for (int f = 0; f < made.length; f++) {
            c.due("text of " + f, Checks.textOf(x, f), made[f]);
        }
    }

    private static void fault(String text, boolean intuitionistic, int what, int place) {
        ModalDesk x = new ModalDesk();
        Checks.read(x, 0, "a");
        Checks.type(x, text);
        String shown = "of " + (text.length() > 70 ? text.substring(0, 70) + " .." : text);
        c.due("read " + shown, x.read(0, intuitionistic), what == 0 ? x.slot(0, 0) : -2);
        c.due("fault(0) " + shown, x.fault(0), what);
        c.due("fault(1) " + shown, x.fault(1), place);
        c.due("the tape behind it " + shown, x.end(1), -1);
        if (what != 0) {
            c.due("formulas() " + shown, x.formulas(), 4);
            c.due("slot(0, 0) " + shown, x.slot(0, 0), 2);
        }
    }

    private static void faults() {
        fault("", false, 1, 0);
        fault("  \n", false, 1, 3);
        fault("a b", false, 1, 2);
        fault("ab", false, 1, 1);
        fault("(a", false, 1, 2);
        fault("(a  ", false, 1, 4);
        fault("a)", false, 1, 1);
        fault("(a))", false, 1, 3);
        fault("()", false, 1, 1);
        fault("a&", false, 1, 2);
        fault("a&  ", false, 1, 4);
        fault("&a", false, 1, 0);
        fault("a&|b", false, 1, 2);
        fault("a!b", false, 1, 1);
        fault("a(b)", false, 1, 1);
        fault("[a", false, 1, 0);
        fault("[", false, 1, 0);
        fault("[ ]a", false, 1, 0);
        fault("< >a", false, 1, 0);
        fault("a & [b]", false, 1, 4);
        fault("<a", false, 1, 0);
        fault("a<>b", false, 1, 1);
        fault("a[]", false, 1, 1);
        fault("]", false, 1, 0);
        fault(">a", false, 1, 0);
        fault("<>>a", false, 1, 2);
        fault("A", false, 1, 0);
        fault("a\t", false, 1, 1);
        fault("a\r\n", false, 1, 1);
        fault("a&\0", false, 1, 2);
        fault("a&\u00e1", false, 1, 2);
        fault("TF", false, 1, 1);
        fault("{a", false, 1, 0);
        fault("`", false, 1, 0);
        fault("[]a", true, 3, 0);
        fault("a > <>b", true, 3, 4);
        fault("a[]", true, 1, 1);
        fault("[a", true, 1, 0);
        fault("(a[]", true, 1, 2);
    }

    private static void opens() {
        fault(Checks.repeat("!", 60) + "a", false, 0, -1);
        fault(Checks.repeat("!", 61) + "a", false, 2, 60);
        fault(Checks.repeat("[]", 60) + "a", false, 0, -1);
        fault(Checks.repeat("<>", 61) + "a", false, 2, 120);
        fault(Checks.repeat("(", 60) + "a" + Checks.repeat(")", 60), false, 0, -1);
        fault(Checks.repeat("(", 61) + "a" + Checks.repeat(")", 61), false, 2, 60);
        fault(Checks.repeat("!(", 30) + "a&!b", false, 2, 62);
        fault(Checks.repeat("!(", 30) + "a&b" + Checks.repeat(")", 30) + "&" + Checks.repeat("!", 60) + "c", false, 0, -1);
        fault(Checks.repeat("(", 59) + "!a&!!b", false, 2, 63);
        fault(Checks.repeat("(", 60) + ")", false, 1, 60);
        fault(Checks.repeat("!", 60) + "[]a", true, 2, 60);
        fault(Checks.repeat("!", 59) + "[]a", true, 3, 59);
        fault(Checks.repeat("!", 60) + "[a", true, 1, 60);
        fault(Checks.repeat("!a&", 100) + "a", false, 0, -1);
    }

    private static void lengths() {
        fault("a" + Checks.repeat(" ", 399), false, 0, -1);
        fault("a" + Checks.repeat(" ", 400), false, 1, 400);
        fault("a&" + Checks.repeat(" ", 398), false, 1, 400);
        fault("a&" + Checks.repeat(" ", 500), false, 1, 400);
        fault(Checks.repeat(" ", 399) + "a", false, 0, -1);
        fault(Checks.repeat(" ", 399) + "ab", false, 1, 400);
        fault(Checks.repeat(" ", 400) + "a", false, 1, 400);
        fault(Checks.repeat(" ", 399) + ")" + Checks.repeat(" ", 100), false, 1, 399);
        fault("a" + Checks.repeat(" ", 3999), false, 1, 400);
        fault("a)" + Checks.repeat(" ", 3998), false, 1, 1);
        fault(Checks.repeat("a>", 199) + "aa", false, 1, 399);
        fault("[]" + Checks.repeat(" ", 500), true, 3, 0);
    }

    private static void tooMany() {
        ModalDesk x = new ModalDesk();
        // 149 letters, BOTHS and NEEDS, each with its denial, are just 300 with T and F
        c.due("read of 60 []", Checks.read(x, 1, Checks.repeat("[]", 60) + "a"), 62);
        c.due("formulas()", x.formulas(), 2 + 2 + 120);
        // b, then conjunctions of it, come to 176 more
        c.due("read of the rest", Checks.read(x, 2, "b" + Checks.repeat("&b", 87)), 2 + 2 + 120 + 88 - 1);
        c.due("formulas()", x.formulas(), 300);
        c.due("fault(0)", x.fault(0), 0);
        c.due("read of one more", Checks.read(x, 2, "c"), -2);
        c.due("fault(0)", x.fault(0), 4);
        c.due("fault(1)", x.fault(1), -1);
        c.due("formulas()", x.formulas(), 300);
        c.due("slot(2, 0)", x.slot(2, 0), 211);
        c.due("a fault ahead of it", Checks.read(x, 2, "c&"), -2);
        c.due("fault(0)", x.fault(0), 1);
        c.due("fault(1)", x.fault(1), 2);
        c.due("read of what is there", Checks.read(x, 3, "[][]a"), 4);
        c.due("fault(0)", x.fault(0), 0);
        c.due("read of more nodes than there may be", Checks.read(x, 2, "a" + Checks.repeat("&a", 199)), -2);
        c.due("fault(0)", x.fault(0), 4);
        c.due("and with a fault", Checks.read(x, 2, "a" + Checks.repeat("&a", 198) + "&)"), -2);
        c.due("fault(0)", x.fault(0), 1);
        c.due("fault(1)", x.fault(1), 398);
        whatIsGoneIsMadeAnew();
    }

    private static void whatIsGoneIsMadeAnew() {
        ModalDesk x = new ModalDesk();
        c.due("read of 149 nodes", Checks.read(x, 0, "a" + Checks.repeat("&a", 148)), 150);
        c.due("formulas()", x.formulas(), 300);
        x = new ModalDesk();
        c.due("read of 150 nodes", Checks.read(x, 0, "b" + Checks.repeat("&a", 148)), -2);
        c.due("fault(0)", x.fault(0), 4);
        c.due("formulas()", x.formulas(), 2);
        c.due("read of !a", Checks.read(x, 0, "!a"), 2);
        c.due("read of a&!a", Checks.read(x, 0, "a&!a"), 4);
        c.due("prove a&!a", x.prove(0, 10), 0);
        c.due("read of !(a&!a)", Checks.read(x, 0, "!(a&!a)"), 5);
        c.due("prove !(a&!a)", x.prove(0, 10), 1);
        // 299 is a BOTH's number in what is refused, then an EITHER's
        x = new ModalDesk();
        c.due("read of 100 nodes", Checks.read(x, 0, "a" + Checks.repeat("&a", 99)), 101);
        c.due("read of 60 more", Checks.read(x, 0, "c" + Checks.repeat("|c", 59)), -2);
        c.due("fault(0)", x.fault(0), 4);
        c.due("formulas()", x.formulas(), 202);
        c.due("read of 49 more", Checks.read(x, 0, "d" + Checks.repeat("&d", 48)), 250);
        c.due("formulas()", x.formulas(), 300);
        c.due("prove", x.prove(0, 1000), 0);
        c.due("count(0)", x.count(0), 48);
    }

    private static void refusals() {
        ModalDesk x = new ModalDesk();
        Checks.read(x, 0, "a)");
        Checks.type(x, "b");
        c.due("read(-1, false)", x.read(-1, false), -1);
        c.due("read(8, true)", x.read(8, true), -1);
        c.due("read(MIN, true)", x.read(Integer.MIN_VALUE, true), -1);
        c.due("the tape stays", x.end(1), 1);
        c.due("fault(0) is the latest other read's", x.fault(0), 1);
        c.due("fault(1) is the latest other read's", x.fault(1), 1);
        c.due("fault(-1)", x.fault(-1), -1);
        c.due("fault(2)", x.fault(2), -1);
        c.due("read(7, false)", x.read(7, false), 2);
        c.due("fault(0)", x.fault(0), 0);
        c.due("fault(1)", x.fault(1), -1);
    }
}
