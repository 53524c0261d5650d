/** Terms 1 and 2: how long, how deep and how many, where a FAULT is, and what is made in which order. */
final class EdgesOfTexts {
    private final Checks c;

    EdgesOfTexts(Checks c) {
        this.c = c;
    }

    void all() {
        tapeOf4000();
        textOf400();
        blanks();
        letters();
        signsOfTwoBytes();
        binding();
        takenTogether();
        open60();
        placeOfFault();
        whatCantStand();
        oneMoreOpen();
        notIntuitionistic();
        moreThan300();
        numbered();
        oneOfEach();
        sorts();
        atFirst();
        yesAndNo();
        sameAndNeeds();
        slots();
        standsFor();
        openAsWritten();
        textOfFormula();
    }

    // ---- what is looked at again and again

    /** The text is read as what has these texts. */
    private void reads(String text, boolean intuitionistic, String yes, String no) {
        String shown = shown(text, intuitionistic);
        for (int what = 0; what < 2; what++) {
            ModalDesk x = new ModalDesk();
            Checks.type(x, text);
            int f = x.read(0, intuitionistic);
            c.due("slot(0, 0) of " + shown, x.slot(0, 0), f);
            c.due("fault(0) of " + shown, x.fault(0), 0);
            c.due("fault(1) of " + shown, x.fault(1), -1);
            String told = Checks.textOf(x, x.slot(0, what));
            c.due((what == 0 ? "YES of " : "NO of ") + shown, told, what == 0 ? yes : no);
        }
    }

    private void reads(String text, String yes, String no) {
        reads(text, false, yes, no);
    }

    private void faults(String text, boolean intuitionistic, int fault, int place) {
        ModalDesk x = new ModalDesk();
        Checks.type(x, text);
        String shown = shown(text, intuitionistic);
        c.due("read of " + shown, x.read(0, intuitionistic), -2);
        c.due("fault(0) of " + shown, x.fault(0), fault);
        c.due("fault(1) of " + shown, x.fault(1), place);
        c.due("formulas() behind " + shown, x.formulas(), 2);
        c.due("slot(0, 0) behind " + shown, x.slot(0, 0), -1);
    }

    private void faults(String text, int fault, int place) {
        faults(text, false, fault, place);
    }

    /** What a new desk has made, in its order, once the text is read: YES is the first of the two. */
    private void makes(String text, boolean intuitionistic, int yes, int no, String... texts) {
        ModalDesk x = new ModalDesk();
        Checks.type(x, text);
        String shown = shown(text, intuitionistic);
        c.due("read of " + shown, x.read(0, intuitionistic), yes);
        c.due("NO of " + shown, x.slot(0, 1), no);
        c.due("formulas() behind " + shown, x.formulas(), 2 + texts.length);
        for (int i = 0; i < texts.length; i++) {
            c.due("FORMULA " + (2 + i) + " behind " + shown, Checks.textOf(x, 2 + i), texts[i]);
        }
    }

    private static String shown(String text, boolean intuitionistic) {
        String start = text.length() > 60 ? text.substring(0, 60) + ".. (" + text.length() + " bytes)" : text;
        return (intuitionistic ? "intuitionistic " : "") + start.replace("\n", "\\n");
    }

    private static String spaces(int n) {
        return " ".repeat(n);
    }

    // ---- Terms 1

    private void tapeOf4000() {
        c.says("Terms 1", "TEXTS. THE TAPE has at most 4000 bytes.");
        ModalDesk x = new ModalDesk();
        for (int n = 20; n <= 4000; n += 20) {
            c.due("feed", x.feed(0, 0, 0, 0, 0), n);
        }
        c.due("feed of bytes 4001 to 4020", x.feed(0, 0, 0, 0, 0), -1);
        c.due("end(4001)", x.end(4001), -1);
        c.due("end(4000)", x.end(4000), 4000);
    }

    private void textOf400() {
        c.says("Terms 1", "A TEXT (at most 400 of them) is one formula;");
        reads("a" + spaces(399), "a", "!a");
        reads(spaces(399) + "a", "a", "!a");
        faults("a" + spaces(400), 1, 400);
        faults(spaces(400) + "a", 1, 400);
        // 400 bytes without a blank: a & a & a & a & a & a & !a
        String full = ("!".repeat(60) + "a&").repeat(6) + "!".repeat(27) + "a";
        c.due("bytes", full.length(), 400);
        reads(full, "((((((a&a)&a)&a)&a)&a)&!a)", "((((((!a|!a)|!a)|!a)|!a)|!a)|a)");
        faults(full + " ", 1, 400);
        faults("", 1, 0);
        faults("a b", 1, 2);
        faults("(a)(b)", 1, 3);
    }

    private void blanks() {
        c.says("Terms 1", "blanks (10, 32) anywhere between its signs:");
        reads(" \n [] \n <> ( \n! a \n& b\n| c ) \n> T\n ", "(<>[]((a|!b)&!c)|T)", "([]<>((!a&b)|c)&F)");
        for (int b : new int[] {0, 9, 11, 13, 31, 127, 128, 133, 160, 255}) {
            faults((char) b + "a", 1, 0);
            faults("a" + (char) b, 1, 1);
            faults("a&" + (char) b + "b", 1, 2);
        }
    }

    private void letters() {
        c.says("Terms 1", "letters a .. z; T and F; ! (not),");
        for (int b = 0; b < 256; b++) {
            String text = "" + (char) b;
            if (b >= 'a' && b <= 'z') {
                reads(text, text, "!" + text);
                reads("!" + text, "!" + text, text);
            } else if (b == 'T' || b == 'F') {
                reads(text, text, b == 'T' ? "F" : "T");
                reads("!" + text, b == 'T' ? "F" : "T", text);
            } else {
                // behind what may stand there the end is what can't
                faults(text, 1, b == 10 || b == 32 || b == '!' || b == '(' ? 1 : 0);
            }
        }
    }

    private void signsOfTwoBytes() {
        c.says("Terms 1", "[] and <> (two bytes each, nothing between; each is one sign, [ and < alone are none), "
            + "ahead of what they are of;");
        reads("[]a", "[]a", "<>!a");
        reads("<>a", "<>a", "[]!a");
        reads("<>a>a", "([]!a|a)", "(<>a&!a)");
        faults("[ ]a", 1, 0);
        faults("[\n]a", 1, 0);
        faults("< >a", 1, 0);
        faults("[a]", 1, 0);
        faults("<a>", 1, 0);
        faults("[", 1, 0);
        faults("<", 1, 0);
        faults("a&[", 1, 2);
        faults("a>< ", 1, 2);
        faults("]a", 1, 0);
        faults("[>a", 1, 0);
        faults("<]a", 1, 0);
        faults("[]", 1, 2);
        faults("[]]a", 1, 2);
        faults("<>>a", 1, 2);
        faults("a[]", 1, 1);
        faults("a<>", 1, 1);
        // the TEXT ends at 400: there its end is the FAULT, or the [ or < that is alone in it
        faults(spaces(398) + "[]", 1, 400);
        faults(spaces(398) + "<>a", 1, 400);
        faults(spaces(399) + "[", 1, 399);
        faults(spaces(399) + "<", 1, 399);
        faults(spaces(399) + "[]a", 1, 399);
        faults(spaces(399) + "<>a", 1, 399);
    }

    private void binding() {
        c.says("Terms 1", "and, of two: & (binds strongest), | , > , = (weakest); ( ).");
        reads("a&b|c", "((a&b)|c)", "((!a|!b)&!c)");
        reads("a|b&c", "(a|(b&c))", "(!a&(!b|!c))");
        reads("a|b>c", "((!a&!b)|c)", "((a|b)&!c)");
        reads("a>b|c", "(!a|(b|c))", "(a&(!b&!c))");
        reads("a>b=c", "(((a&!b)|c)&((!a|b)|!c))", "(((!a|b)&!c)|((a&!b)&c))");
        reads("a=b>c", "((!a|(!b|c))&(a|(b&!c)))", "((a&(b&!c))|(!a&(!b|c)))");
        reads("a&b>c", "((!a|!b)|c)", "((a&b)&!c)");
        reads("a&b=c", "(((!a|!b)|c)&((a&b)|!c))", "(((a&b)&!c)|((!a|!b)&c))");
        reads("a&(b|c)", "(a&(b|c))", "(!a|(!b&!c))");
        reads("!a&b", "(!a&b)", "(a|!b)");
        reads("!(a&b)", "(!a|!b)", "(a&b)");
        reads("[]a|b", "([]a|b)", "(<>!a&!b)");
        reads("<>[]!a|b", "(<>[]!a|b)", "([]<>a&!b)");
    }

    private void takenTogether() {
        c.says("Terms 1", "& and | and = are taken together from the left, > from the right.");
        reads("a&b&c", "((a&b)&c)", "((!a|!b)|!c)");
        reads("a|b|c", "((a|b)|c)", "((!a&!b)&!c)");
        reads("a=b=T", "((((a&!b)|(!a&b))|T)&(((!a|b)&(a|!b))|F))", "((((!a|b)&(a|!b))&F)|(((a&!b)|(!a&b))&T))");
        reads("a>b>c", "(!a|(!b|c))", "(a&(b&!c))");
        reads("a>b>c>d", "(!a|(!b|(!c|d)))", "(a&(b&(c&!d)))");
        reads("a&b&c|d|e&f", "((((a&b)&c)|d)|(e&f))", "((((!a|!b)|!c)&!d)&(!e|!f))");
    }

    private void open60() {
        c.says("Terms 1", "At most 60 of ( ! [] <> may be open at one place "
            + "(a ( up to its ), the others up to the end of what they are of).");
        reads("(".repeat(60) + "a" + ")".repeat(60), "a", "!a");
        reads("!".repeat(60) + "a", "a", "!a");
        reads("[]".repeat(60) + "a", "[]".repeat(60) + "a", "<>".repeat(60) + "!a");
        reads("<>".repeat(60) + "a", "<>".repeat(60) + "a", "[]".repeat(60) + "!a");
        // NOT ([] <> NOT ([] <> ..)), fifteen times: every second [] <> is turned
        reads("(![]<>".repeat(15) + "a" + ")".repeat(15), "<>[]" + "[]<><>[]".repeat(7) + "!a",
            "[]<>" + "<>[][]<>".repeat(7) + "a");
        // a ( is open up to its ), so there are 60 once more behind that
        String sixty = "(".repeat(60) + "a" + ")".repeat(60);
        reads(sixty + "&" + sixty + "&" + sixty, "((a&a)&a)", "((!a|!a)|!a)");
        // a ! up to the end of a letter, or of a ( .. )
        String nots = "!".repeat(60) + "a";
        reads(nots + "&" + nots, "(a&a)", "(!a|!a)");
        reads("!(".repeat(30) + "a" + ")".repeat(30) + "&" + nots, "(a&a)", "(!a|!a)");
        reads("(".repeat(59) + "!a&!a" + ")".repeat(59), "(!a&!a)", "(a|a)");
        faults("(".repeat(59) + "!a&!!a" + ")".repeat(59), 2, 63);
        faults("!(".repeat(30) + "a&!a" + ")".repeat(30), 2, 62);
        faults("!".repeat(59) + "(a&(a))", 2, 62);
        reads("!".repeat(59) + "(a&a)", "(!a|!a)", "(a&a)");
        // what binds two is open nowhere
        reads("!a&".repeat(100) + "!a", chain(100, "!a", "&"), chain(100, "a", "|"));
    }

    /** x & x & x .. as its first 400 bytes. */
    private static String chain(int signs, String x, String sign) {
        StringBuilder b = new StringBuilder("(".repeat(signs)).append(x);
        for (int i = 0; i < signs; i++) {
            b.append(sign).append(x).append(')');
        }
        return b.substring(0, Math.min(400, b.length()));
    }

    private void placeOfFault() {
        c.says("Terms 1", "FAULTS, with the place (how many bytes are ahead) of the first sign with which no formula goes on "
            + "(the end, too, as the text's length):");
        faults("", 1, 0);
        faults(" ", 1, 1);
        faults(" \n \n", 1, 4);
        faults("a&", 1, 2);
        faults("a& \n", 1, 4);
        faults("(a", 1, 2);
        faults("(a ", 1, 3);
        faults("!", 1, 1);
        faults("[] ", 1, 3);
        faults(" ) ", 1, 1);
        faults("  a  b  c", 1, 5);
        faults("a))", 1, 1);
        faults("a&)|]", 1, 2);
        // blanks ahead count, and so does each of two bytes
        faults("[][]&", 1, 4);
        faults("\n\n[] <> |", 1, 8);
    }

    private void whatCantStand() {
        c.says("Terms 1", "1 what can't stand there;");
        for (String sign : new String[] {"&", "|", ">", "=", ")", "]", "[", "<", "A", "0", "~"}) {
            faults(sign, 1, 0);
            faults("(" + sign, 1, 1);
            faults("!" + sign, 1, 1);
            faults("a&" + sign, 1, 2);
        }
        for (String sign : new String[] {"a", "T", "F", "(", "!", "[]", "<>", "[", "<", "]", ")", "A"}) {
            faults("a" + sign, 1, 1);
            faults("(a)" + sign, 1, 3);
        }
        faults("()", 1, 1);
        faults("(a))", 1, 3);
        // with 60 open it is no FAULT 2
        faults("(".repeat(60) + ")", 1, 60);
        faults("!".repeat(60) + "&", 1, 60);
        faults("!".repeat(60) + "[", 1, 60);
        faults("(".repeat(60) + "a(", 1, 61);
    }

    private void oneMoreOpen() {
        c.says("Terms 1", "2 one more open than 60;");
        faults("(".repeat(61) + "a" + ")".repeat(61), 2, 60);
        faults("!".repeat(61) + "a", 2, 60);
        faults("[]".repeat(61) + "a", 2, 120);
        faults("<>".repeat(61) + "a", 2, 120);
        faults(" ".repeat(5) + "(".repeat(60) + " !a", 2, 66);
        // it is told at the sign, whatever comes behind it
        faults("(".repeat(61), 2, 60);
        faults("!".repeat(61) + ")", 2, 60);
        faults("!".repeat(400), 2, 60);
    }

    private void notIntuitionistic() {
        c.says("Terms 1", "and, in intuitionistic texts, 3 a [] or <> (of one sign the least).");
        faults("[]a", true, 3, 0);
        faults("<>a", true, 3, 0);
        faults("a > (b | <>a)", true, 3, 9);
        faults("[]", true, 3, 0);
        faults("a[]", true, 1, 1);
        faults("[a", true, 1, 0);
        faults("<", true, 1, 0);
        faults("!".repeat(59) + "[]a", true, 3, 59);
        faults("!".repeat(60) + "[]a", true, 2, 60);
        faults("!".repeat(60) + "<>a", true, 2, 60);
        // the first sign counts, not the least FAULT of all
        faults("[]a)", true, 3, 0);
        faults("[]" + "!".repeat(61), true, 3, 0);
        faults(")[]", true, 1, 0);
    }

    private void moreThan300() {
        c.says("Terms 1", "Behind all 4 (place NONE): there would be more than 300 FORMULAS.");
        ModalDesk x = new ModalDesk();
        c.due("read of 298 FORMULAS", Checks.read(x, 0, "a" + "&a".repeat(148)), 150);
        c.due("formulas()", x.formulas(), 300);
        faults("b" + "&a".repeat(148), 4, -1);
        faults("a" + "&a".repeat(149), 4, -1);
        faults("a" + "&a".repeat(199), 4, -1);
        faults("a" + "&a".repeat(198) + "&", 1, 398);
        faults("a" + "&a".repeat(198) + "a", 1, 397);
        faults("a" + "&a".repeat(150) + "&" + "!".repeat(61) + "a", 2, 362);
        faults("[]a" + "&a".repeat(190), true, 3, 0);
        // of intuitionistic texts what they stand for counts: 2 for the letter, its [] and each &
        faults("a" + "&a".repeat(148), true, 4, -1);
        ModalDesk y = new ModalDesk();
        c.due("read of 298 FORMULAS", Checks.readIntuitionistic(y, 0, "a" + "&a".repeat(147)), 150);
        c.due("formulas()", y.formulas(), 300);
        // of 300 there is room for none, but for what is there
        c.due("read of b", Checks.read(y, 1, "b"), -2);
        c.due("fault(0)", y.fault(0), 4);
        c.due("fault(1)", y.fault(1), -1);
        c.due("read of b)", Checks.read(y, 1, "b)"), -2);
        c.due("fault(0)", y.fault(0), 1);
        c.due("fault(1)", y.fault(1), 1);
        c.due("read of []a & []a", Checks.read(y, 1, "[]a & []a"), 4);
        c.due("formulas()", y.formulas(), 300);
    }

    // ---- Terms 2

    private void numbered() {
        c.says("Terms 2", "FORMULAS are numbered from 0 on as they are made;");
        makes("c", false, 2, 3, "c", "!c");
        ModalDesk x = new ModalDesk();
        for (int i = 0; i < 26; i++) {
            c.due("read of letter " + i, Checks.read(x, 0, "" + (char) ('z' - i)), 2 + 2 * i);
            c.due("slot(0, 1)", x.slot(0, 1), 3 + 2 * i);
        }
    }

    private void oneOfEach() {
        c.says("Terms 2", "one that is as another one that there is, is that one.");
        ModalDesk x = new ModalDesk();
        c.due("read of a&b", Checks.read(x, 0, "a&b"), 4);
        c.due("read of ((a)) & !!b", Checks.read(x, 1, "((a)) & !!b"), 4);
        c.due("read of !(!a|!b)", Checks.read(x, 2, "!(!a|!b)"), 4);
        c.due("read of !(a>!b)", Checks.read(x, 3, "!(a>!b)"), 4);
        c.due("read of a>!b", Checks.read(x, 3, "a>!b"), 7);
        c.due("formulas()", x.formulas(), 8);
        // the order of the parts tells them apart
        c.due("read of b&a", Checks.read(x, 4, "b&a"), 8);
        c.due("read of b|a", Checks.read(x, 4, "b|a"), 10);
        c.due("read of a&a", Checks.read(x, 4, "a&a"), 12);
        c.due("formulas()", x.formulas(), 14);
        makes("(a&b)&(a&b)", false, 5, 9, "a", "b", "(a&b)", "((a&b)&(a&b))", "!a", "!b", "(!a|!b)", "((!a|!b)|(!a|!b))");
    }

    private void sorts() {
        c.says("Terms 2", "They are T, F, a letter, a letter's opposite, or of parts: "
            + "BOTH (two), EITHER (two), NEED (one), MAY (one).");
        ModalDesk x = new ModalDesk();
        Checks.read(x, 0, "[](a|b)");
        int[][] rows = {{0, -1, -1}, {1, -1, -1}, {2, 0, -1}, {2, 1, -1}, {5, 2, 3}, {6, 4, -1}, {3, 0, -1}, {3, 1, -1},
            {4, 6, 7}, {7, 8, -1}, {-1, -1, -1}};
        for (int f = 0; f < rows.length; f++) {
            for (int what = 0; what < 3; what++) {
                c.due("formula(" + f + ", " + what + ")", x.formula(f, what), rows[f][what]);
            }
        }
    }

    private void atFirst() {
        c.says("Terms 2", "T is 0, F 1 at first, and there are no others.");
        ModalDesk x = new ModalDesk();
        c.due("formulas()", x.formulas(), 2);
        c.due("FORMULA 0", Checks.textOf(x, 0), "T");
        c.due("FORMULA 1", Checks.textOf(x, 1), "F");
        c.due("tell(2)", x.tell(2), -1);
    }

    private void yesAndNo() {
        c.says("Terms 2", "YES and NO of a text x, made from the inside out, of each the parts in the order in which "
            + "they are written here, then itself:");
        makes("a&!(b|c)", false, 6, 11, "a", "!b", "!c", "(!b&!c)", "(a&(!b&!c))", "!a", "b", "c", "(b|c)", "(!a|(b|c))");
        c.says("Terms 2", "YES of T: T; NO: F (of F the other way round).");
        makes("T", false, 0, 1);
        makes("F", false, 1, 0);
        c.says("Terms 2", "Of a letter: it; its opposite.");
        makes("z", false, 2, 3, "z", "!z");
        c.says("Terms 2", "Of !x: NO of x; YES of x.");
        makes("!z", false, 2, 3, "!z", "z");
        makes("!!z", false, 2, 3, "z", "!z");
        makes("!T", false, 1, 0);
        c.says("Terms 2", "Of x & y: BOTH (YES x, YES y); EITHER (NO x, NO y).");
        makes("b&a", false, 4, 7, "b", "a", "(b&a)", "!b", "!a", "(!b|!a)");
        c.says("Terms 2", "Of x | y: EITHER (YES x, YES y); BOTH (NO x, NO y).");
        makes("b|a", false, 4, 7, "b", "a", "(b|a)", "!b", "!a", "(!b&!a)");
        c.says("Terms 2", "Of x > y: EITHER (NO x, YES y); BOTH (YES x, NO y).");
        makes("b>a", false, 4, 7, "!b", "a", "(!b|a)", "b", "!a", "(b&!a)");
    }

    private void sameAndNeeds() {
        c.says("Terms 2", "Of x = y: BOTH (EITHER (NO x, YES y), EITHER (YES x, NO y)); "
            + "EITHER (BOTH (YES x, NO y), BOTH (NO x, YES y)).");
        makes("b=a", false, 8, 11, "!b", "a", "(!b|a)", "b", "!a", "(b|!a)", "((!b|a)&(b|!a))", "(b&!a)", "(!b&a)",
            "((b&!a)|(!b&a))");
        makes("a=a", false, 6, 9, "!a", "a", "(!a|a)", "(a|!a)", "((!a|a)&(a|!a))", "(a&!a)", "(!a&a)", "((a&!a)|(!a&a))");
        c.says("Terms 2", "Of []x: NEED (YES x); MAY (NO x).");
        makes("[]a", false, 3, 5, "a", "[]a", "!a", "<>!a");
        c.says("Terms 2", "Of <>x: MAY (YES x); NEED (NO x).");
        makes("<>a", false, 3, 5, "a", "<>a", "!a", "[]!a");
        makes("<>[]T", false, 3, 5, "[]T", "<>[]T", "<>F", "[]<>F");
    }

    private void slots() {
        c.says("Terms 2", "Reading a text makes its YES, then its NO; a SLOT (0 .. 7) has both.");
        makes("[]b>c", false, 5, 9, "!b", "<>!b", "c", "(<>!b|c)", "b", "[]b", "!c", "([]b&!c)");
        ModalDesk x = new ModalDesk();
        for (int slot = 0; slot < 8; slot++) {
            c.due("read in slot " + slot, Checks.read(x, slot, "" + (char) ('a' + slot)), 2 + 2 * slot);
        }
        c.due("read in slot 8", Checks.read(x, 8, "a"), -1);
        c.due("read in slot -1", Checks.read(x, -1, "a"), -1);
        for (int slot = 0; slot < 8; slot++) {
            c.due("slot(" + slot + ", 0)", x.slot(slot, 0), 2 + 2 * slot);
            c.due("slot(" + slot + ", 1)", x.slot(slot, 1), 3 + 2 * slot);
        }
    }

    private void standsFor() {
        c.says("Terms 2", "AN INTUITIONISTIC text (without [] and <>) is read as the S4 text that it stands for:");
        faults("[]a", true, 3, 0);
        faults("!<>a", true, 3, 1);
        reads("!(a&b)>F", true, "[](<>([]a&[]b)|F)", "<>([](<>!a|<>!b)&T)");
        c.says("Terms 2", "a letter a as []a;");
        makes("a", true, 3, 5, "a", "[]a", "!a", "<>!a");
        c.says("Terms 2", "!x as []!x;");
        makes("!a", true, 4, 7, "!a", "<>!a", "[]<>!a", "a", "[]a", "<>[]a");
        makes("!T", true, 2, 3, "[]F", "<>T");
        c.says("Terms 2", "x > y as [](x > y);");
        makes("a>b", true, 7, 13, "!a", "<>!a", "b", "[]b", "(<>!a|[]b)", "[](<>!a|[]b)", "a", "[]a", "!b", "<>!b",
            "([]a&<>!b)", "<>([]a&<>!b)");
        c.says("Terms 2", "x = y as (x > y) & (y > x), each read so;");
        makes("a=b", true, 14, 19, "!a", "<>!a", "b", "[]b", "(<>!a|[]b)", "[](<>!a|[]b)", "!b", "<>!b", "a", "[]a",
            "(<>!b|[]a)", "[](<>!b|[]a)", "([](<>!a|[]b)&[](<>!b|[]a))", "([]a&<>!b)", "<>([]a&<>!b)", "([]b&<>!a)",
            "<>([]b&<>!a)", "(<>([]a&<>!b)|<>([]b&<>!a))");
        c.says("Terms 2", "others as they are, their parts read so.");
        makes("T", true, 0, 1);
        makes("F", true, 1, 0);
        makes("a&T", true, 4, 7, "a", "[]a", "([]a&T)", "!a", "<>!a", "(<>!a|F)");
        makes("F|a", true, 4, 7, "a", "[]a", "(F|[]a)", "!a", "<>!a", "(T&<>!a)");
        makes("(a)", true, 3, 5, "a", "[]a", "!a", "<>!a");
    }

    private void openAsWritten() {
        c.says("Terms 2", "(What is open counts as the text is written.)");
        // sixty ! stand for sixty [] and sixty !
        reads("!".repeat(60) + "a", true, "[]<>".repeat(30) + "[]a", "<>[]".repeat(30) + "<>!a");
        faults("!".repeat(61) + "a", true, 2, 60);
        // sixty > in one another stand for sixty [] (.. > ..), and their ( are sixty, too
        ModalDesk x = new ModalDesk();
        c.due("read of 60 >", Checks.readIntuitionistic(x, 0, "(a>".repeat(60) + "a" + ")".repeat(60)) > 0, true);
        // 2 each for the letter, its [], sixty EITHERS and sixty NEEDS
        c.due("formulas()", x.formulas(), 2 + 2 * 122);
        faults("(a>".repeat(61) + "a" + ")".repeat(61), true, 2, 180);
        // = stands for two > in a row, and is open nowhere
        reads("(".repeat(60) + "T=F" + ")".repeat(60), true, "([](F|F)&[](T|T))", "(<>(T&T)|<>(F&F))");
    }

    private void textOfFormula() {
        c.says("Terms 2", "The TEXT of a FORMULA: T, F, a letter, ! and a letter; BOTH and EITHER: ( , the first part's, "
            + "& or | , the second one's, ) ; NEED: [] and its part's; MAY: <> and its part's.");
        makes("[](T&a)|<>!z", false, 7, 13, "a", "(T&a)", "[](T&a)", "!z", "<>!z", "([](T&a)|<>!z)", "!a", "(F|!a)",
            "<>(F|!a)", "z", "[]z", "(<>(F|!a)&[]z)");
    }
}
