/** Promises 7 to 13: read, fault, set, slot, formulas, formula, tell. */
final class EdgesOfFormulas {
    private static final int MIN = Integer.MIN_VALUE;
    private static final int MAX = Integer.MAX_VALUE;
    private static final int[] NO_SLOTS = {-1, 8, 9, MIN, MAX};

    private final Checks c;

    EdgesOfFormulas(Checks c) {
        this.c = c;
    }

    void all() {
        read();
        readWithoutSlot();
        readWithFault();
        readWithoutRoom();
        readBehindFaults();
        fault();
        faultOfTheLatest();
        faultOfAnotherWhat();
        faultAt400();
        set();
        setOfNone();
        setOf300();
        slot();
        slotOfNone();
        formulas();
        formula();
        formulaOfNone();
        tell();
        tellTheFirst400();
        tellNone();
    }

    // ---- Promise 7

    private void read() {
        c.says("Promise 7", "The tape is taken: a TEXT, of intuitionistic logic or not; the slot has its YES and NO: "
            + "the number of its YES.");
        ModalDesk x = new ModalDesk();
        Checks.type(x, "a");
        c.due("read(0, false)", x.read(0, false), 2);
        c.due("the tape is empty", x.end(1), -1);
        c.due("slot(0, 0)", x.slot(0, 0), 2);
        c.due("slot(0, 1)", x.slot(0, 1), 3);
        Checks.type(x, "a");
        c.due("read(7, true)", x.read(7, true), 4);
        c.due("the tape is empty", x.end(1), -1);
        c.due("slot(7, 0)", x.slot(7, 0), 4);
        c.due("slot(7, 1)", x.slot(7, 1), 5);
        c.due("slot(0, 0) stays", x.slot(0, 0), 2);
        // a slot that is not empty
        Checks.type(x, "F");
        c.due("read(0, true)", x.read(0, true), 1);
        c.due("slot(0, 0)", x.slot(0, 0), 1);
        c.due("slot(0, 1)", x.slot(0, 1), 0);
        // YES may be what was made long ago, NO, too
        c.due("read of !a", Checks.read(x, 3, "!a"), 3);
        c.due("slot(3, 1)", x.slot(3, 1), 2);
    }

    private void readWithoutSlot() {
        c.says("Promise 7", "NONE: there is no such slot (the tape stays).");
        ModalDesk x = new ModalDesk();
        Checks.type(x, "b");
        for (int slot : NO_SLOTS) {
            c.due("read(" + slot + ", false)", x.read(slot, false), -1);
            c.due("read(" + slot + ", true)", x.read(slot, true), -1);
        }
        c.due("nothing is made", x.formulas(), 2);
        c.due("the tape stays", x.end(1), 1);
        c.due("read(0, false)", x.read(0, false), 2);
        c.due("its text", Checks.textOf(x, 2), "b");
    }

    private void readWithFault() {
        c.says("Promise 7", "-2: a FAULT (nothing is made, the slot stays).");
        String many = "c" + "&b".repeat(148);
        String[] texts = {"b&", "b&" + "!".repeat(61) + "c", "b&[]c", many};
        for (int fault = 1; fault <= 4; fault++) {
            ModalDesk x = new ModalDesk();
            Checks.read(x, 0, "a");
            Checks.type(x, texts[fault - 1]);
            c.due("read with FAULT " + fault, x.read(0, fault == 3), -2);
            c.due("fault(0)", x.fault(0), fault);
            c.due("the tape is empty", x.end(1), -1);
            c.due("nothing is made", x.formulas(), 4);
            c.due("slot(0, 0) stays", x.slot(0, 0), 2);
            c.due("slot(0, 1) stays", x.slot(0, 1), 3);
            Checks.type(x, texts[fault - 1]);
            c.due("read in an empty slot", x.read(1, fault == 3), -2);
            c.due("slot(1, 0) stays empty", x.slot(1, 0), -1);
            c.due("slot(1, 1) stays empty", x.slot(1, 1), -1);
            // what would have been made is made, as if nothing had been
            c.due("read of b", Checks.read(x, 1, "b"), 4);
            c.due("slot(1, 1)", x.slot(1, 1), 5);
        }
    }

    /** There is room for some of what would be made: that goes again, and others take its numbers. */
    private void readWithoutRoom() {
        ModalDesk x = new ModalDesk();
        c.due("read of 200 FORMULAS", Checks.read(x, 0, "a" + "&a".repeat(99)), 101);
        c.due("read of 120 more", Checks.read(x, 0, "c" + "|c".repeat(59)), -2);
        c.due("fault(0)", x.fault(0), 4);
        c.due("nothing is made", x.formulas(), 202);
        c.due("formula(202, 0)", x.formula(202, 0), -1);
        c.due("slot(0, 0) stays", x.slot(0, 0), 101);
        c.due("tell(202)", x.tell(202), -1);
        // 202 is a letter either way; 203 .. 250 would have been EITHERS, and are BOTHS
        c.due("read of 98 more", Checks.read(x, 0, "d" + "&d".repeat(48)), 250);
        c.due("formulas()", x.formulas(), 300);
        formulaIs(x, 202, 2, 3, -1);
        formulaIs(x, 203, 4, 202, 202);
        formulaIs(x, 299, 5, 298, 251);
        c.due("prove", x.prove(0, 1000), 0);
        c.due("count(0)", x.count(0), 48);
        // of the innermost BOTH the parts are there already
        x.set(1, 299);
        c.due("prove of its NO", x.prove(1, 1000), 0);
        c.due("count(0)", x.count(0), 47);
    }

    /** Whatever a text with a FAULT began, nothing of it is left in the next one. */
    private void readBehindFaults() {
        ModalDesk x = new ModalDesk();
        for (int i = 0; i < 4; i++) {
            c.due("read of 199 > and no more", Checks.read(x, 0, "a>".repeat(199) + ")"), -2);
            c.due("fault(1)", x.fault(1), 398);
        }
        for (char p = 'a'; p < 'e'; p++) {
            c.due("read of 140 & and a )", Checks.read(x, 0, p + ("&" + p).repeat(140) + ")"), -2);
            c.due("fault(1)", x.fault(1), 281);
        }
        c.due("read of 60 ( and no more", Checks.read(x, 0, "(".repeat(60) + "a"), -2);
        c.due("fault(1)", x.fault(1), 61);
        c.due("read of b)", Checks.read(x, 0, "b)"), -2);
        c.due("fault(1)", x.fault(1), 1);
        c.due("read of 60 !", Checks.read(x, 0, "!".repeat(60)), -2);
        c.due("read of 60 ! and b", Checks.read(x, 0, "!".repeat(60) + "b"), 2);
        c.due("read of b>c>d", Checks.read(x, 0, "b>c>d"), 7);
        c.due("its text", Checks.textOf(x, 7), "(!b|(!c|d))");
        c.due("read of 60 ( .. )", Checks.read(x, 0, "(".repeat(60) + "b" + ")".repeat(60)), 2);
        c.due("read of 140 & of b", Checks.read(x, 0, "b" + "&b".repeat(140)) > 0, true);
    }

    // ---- Promise 8

    private void fault() {
        c.says("Promise 8", "Of the latest read() that did not tell NONE, what 0: its FAULT, 0 without; "
            + "1: the place, NONE without.");
        ModalDesk x = new ModalDesk();
        faultIs(x, "ahead of any read", 0, -1);
        Checks.read(x, 0, "a&");
        faultIs(x, "behind a&", 1, 2);
        Checks.read(x, 0, "!".repeat(61));
        faultIs(x, "behind 61 !", 2, 60);
        Checks.readIntuitionistic(x, 0, "!<>a");
        faultIs(x, "behind !<>a", 3, 1);
        Checks.read(x, 0, "c" + "&b".repeat(148));
        faultIs(x, "behind 302 FORMULAS", 4, -1);
        Checks.read(x, 0, ")");
        faultIs(x, "behind )", 1, 0);
        Checks.read(x, 0, "a");
        faultIs(x, "behind a", 0, -1);
    }

    private void faultOfTheLatest() {
        ModalDesk x = new ModalDesk();
        Checks.read(x, 0, "a)");
        faultIs(x, "behind a)", 1, 1);
        // a read that tells NONE is none, whatever is on the tape
        Checks.type(x, "a");
        c.due("read(8, false)", x.read(8, false), -1);
        faultIs(x, "behind a read that tells NONE", 1, 1);
        x.end(0);
        c.due("read(-1, false)", x.read(-1, false), -1);
        faultIs(x, "behind a read that tells NONE", 1, 1);
        // nor are these reads
        x.set(0, 0);
        x.prove(0, 1);
        x.proof();
        x.take();
        x.verify(0);
        faultIs(x, "behind other calls", 1, 1);
        Checks.read(x, 0, "a");
        Checks.type(x, "]");
        x.read(MAX, false);
        faultIs(x, "behind a read that tells NONE", 0, -1);
    }

    private void faultIs(ModalDesk x, String when, int fault, int place) {
        c.due("fault(0) " + when, x.fault(0), fault);
        c.due("fault(1) " + when, x.fault(1), place);
    }

    private void faultOfAnotherWhat() {
        c.says("Promise 8", "NONE for another what.");
        ModalDesk x = new ModalDesk();
        for (int what : new int[] {2, 3, -1, MIN, MAX}) {
            c.due("fault(" + what + ") ahead of any read", x.fault(what), -1);
        }
        Checks.read(x, 0, "a)");
        for (int what : new int[] {2, 3, -1, MIN, MAX}) {
            c.due("fault(" + what + ")", x.fault(what), -1);
        }
    }

    private void faultAt400() {
        c.says("Promise 8", "(A tape of more than 400 bytes: FAULT 1 at 400, if there is none ahead.)");
        longTape("a" + " ".repeat(399), 0, -1);
        longTape("a" + " ".repeat(400), 1, 400);
        longTape("a" + " ".repeat(3999), 1, 400);
        longTape("a&" + " ".repeat(398), 1, 400);
        longTape("a&" + " ".repeat(399), 1, 400);
        longTape(" ".repeat(400), 1, 400);
        longTape(" ".repeat(401), 1, 400);
        longTape(" ".repeat(4000), 1, 400);
        longTape(" ".repeat(400) + "a", 1, 400);
        longTape("a" + " ".repeat(399) + ")", 1, 400);
        longTape("a" + " ".repeat(398) + ")", 1, 399);
        longTape("a" + " ".repeat(398) + ")" + " ".repeat(9), 1, 399);
        longTape(")" + " ".repeat(400), 1, 0);
        longTape("!".repeat(61) + " ".repeat(400), 2, 60);
        longTape("!".repeat(60) + " ".repeat(340) + "!", 1, 400);
        // of 302 FORMULAS, or of what is no intuitionistic text, it is told ahead of 4, and behind 3
        longTape("c" + "&b".repeat(148) + " ".repeat(200), 1, 400);
        ModalDesk x = new ModalDesk();
        c.due("read", Checks.readIntuitionistic(x, 0, "[]a" + " ".repeat(400)), -2);
        faultIs(x, "of []a and 400 blanks", 3, 0);
    }

    private void longTape(String text, int fault, int place) {
        ModalDesk x = new ModalDesk();
        String shown = text.substring(0, 3) + ".. (" + text.length() + " bytes)";
        c.due("read of " + shown, Checks.read(x, 0, text), fault == 0 ? 2 : -2);
        faultIs(x, "of " + shown, fault, place);
        c.due("the tape behind " + shown, x.end(1), -1);
    }

    // ---- Promise 9

    private void set() {
        c.says("Promise 9", "A slot has FORMULA f as its YES, and as its NO that of the text of f, which is made, "
            + "if it isn't there: the number of its NO.");
        ModalDesk x = new ModalDesk();
        c.due("set(0, 0)", x.set(0, 0), 1);
        c.due("slot(0, 0)", x.slot(0, 0), 0);
        c.due("slot(0, 1)", x.slot(0, 1), 1);
        c.due("set(7, 1)", x.set(7, 1), 0);
        c.due("slot(7, 0)", x.slot(7, 0), 1);
        c.due("slot(7, 1)", x.slot(7, 1), 0);
        // 2 !a, 3 <>2, 4 b, 5 (3|4), 6 a, 7 []6, 8 !b, 9 (7&8)
        Checks.read(x, 1, "[]a>b");
        int[] no = {1, 0, 6, 7, 8, 9, 2, 3, 4, 5};
        for (int f = 0; f < no.length; f++) {
            c.due("set(0, " + f + ")", x.set(0, f), no[f]);
            c.due("slot(0, 0)", x.slot(0, 0), f);
            c.due("slot(0, 1)", x.slot(0, 1), no[f]);
        }
        c.due("formulas()", x.formulas(), 10);
        c.due("slot(1, 0) stays", x.slot(1, 0), 5);
        // its NO is what a read of its text makes it
        ModalDesk y = new ModalDesk();
        Checks.read(y, 0, "(a=[]b)=<>(b=!c)");
        for (int f = 0; f < y.formulas(); f++) {
            y.tell(f);
            y.take();
            c.due("read of FORMULA " + f, y.read(1, false), f);
            c.due("set(2, " + f + ")", y.set(2, f), y.slot(1, 1));
        }
    }

    private void setOfNone() {
        c.says("Promise 9", "NONE: there is no such slot, or FORMULA.");
        ModalDesk x = new ModalDesk();
        Checks.read(x, 0, "a");
        for (int slot : NO_SLOTS) {
            c.due("set(" + slot + ", 0)", x.set(slot, 0), -1);
            c.due("set(" + slot + ", 4)", x.set(slot, 4), -1);
        }
        for (int f : new int[] {4, 5, 299, 300, MAX, -1, MIN}) {
            c.due("set(0, " + f + ")", x.set(0, f), -1);
            c.due("set(1, " + f + ")", x.set(1, f), -1);
        }
        c.due("slot(0, 0) stays", x.slot(0, 0), 2);
        c.due("slot(1, 0) stays empty", x.slot(1, 0), -1);
        c.due("set(1, 3), the last one", x.set(1, 3), 2);
        c.due("formulas()", x.formulas(), 4);
    }

    /** Each FORMULA came with its NO, so that there never would be more, not even of 300. */
    private void setOf300() {
        c.says("Promise 9", "-2: there would be more than 300.");
        ModalDesk x = new ModalDesk();
        Checks.read(x, 0, "a" + "&a".repeat(148));
        c.due("formulas()", x.formulas(), 300);
        // 2 a, 3 .. 150 the BOTHS, 151 !a, 152 .. 299 the EITHERS
        for (int f = 2; f <= 150; f += 37) {
            c.due("set(1, " + f + ")", x.set(1, f), f + 149);
            c.due("set(1, " + (f + 149) + ")", x.set(1, f + 149), f);
        }
        c.due("set(1, 299)", x.set(1, 299), 150);
        c.due("set(1, 300)", x.set(1, 300), -1);
        c.due("slot(1, 0)", x.slot(1, 0), 299);
        c.due("formulas()", x.formulas(), 300);
    }

    // ---- Promise 10

    private void slot() {
        c.says("Promise 10", "Of a slot, what 0: its YES, 1: its NO.");
        ModalDesk x = new ModalDesk();
        Checks.read(x, 0, "a");
        Checks.read(x, 7, "!b");
        c.due("slot(0, 0)", x.slot(0, 0), 2);
        c.due("slot(0, 1)", x.slot(0, 1), 3);
        c.due("slot(7, 0)", x.slot(7, 0), 4);
        c.due("slot(7, 1)", x.slot(7, 1), 5);
        x.set(7, 0);
        c.due("slot(7, 0)", x.slot(7, 0), 0);
        c.due("slot(7, 1)", x.slot(7, 1), 1);
    }

    private void slotOfNone() {
        c.says("Promise 10", "NONE if it is empty, there is none such, or for another what.");
        ModalDesk x = new ModalDesk();
        Checks.read(x, 0, "a");
        for (int slot = 1; slot < 8; slot++) {
            c.due("slot(" + slot + ", 0), empty", x.slot(slot, 0), -1);
            c.due("slot(" + slot + ", 1), empty", x.slot(slot, 1), -1);
        }
        for (int slot : NO_SLOTS) {
            c.due("slot(" + slot + ", 0)", x.slot(slot, 0), -1);
            c.due("slot(" + slot + ", 1)", x.slot(slot, 1), -1);
        }
        for (int what : new int[] {2, 3, -1, MIN, MAX}) {
            c.due("slot(0, " + what + ")", x.slot(0, what), -1);
        }
    }

    // ---- Promise 11

    private void formulas() {
        c.says("Promise 11", "How many FORMULAS there are.");
        ModalDesk x = new ModalDesk();
        c.due("formulas() at first", x.formulas(), 2);
        Checks.read(x, 0, "T&F");
        c.due("formulas()", x.formulas(), 4);
        Checks.read(x, 0, "T&F");
        c.due("formulas() behind what was there", x.formulas(), 4);
        Checks.read(x, 0, "T&F)");
        c.due("formulas() behind a FAULT", x.formulas(), 4);
        Checks.read(x, 0, "a" + "&a".repeat(147));
        c.due("formulas(), one short of all", x.formulas(), 300);
        Checks.read(x, 0, "b");
        c.due("formulas() where there are all", x.formulas(), 300);
        x.set(3, 299);
        x.prove(3, 100000);
        c.due("formulas() behind set and prove", x.formulas(), 300);
    }

    // ---- Promise 12

    private void formula() {
        c.says("Promise 12", "Of FORMULA f, what 0: its sort, 0 T, 1 F, 2 a letter, 3 a letter's opposite, 4 BOTH, 5 EITHER, "
            + "6 NEED, 7 MAY; 1: its first part, or the letter (0 a); 2: its second part.");
        ModalDesk x = new ModalDesk();
        Checks.read(x, 0, "[](a&!z)");
        formulaIs(x, 0, 0, -1, -1);
        formulaIs(x, 1, 1, -1, -1);
        formulaIs(x, 2, 2, 0, -1);
        formulaIs(x, 3, 3, 25, -1);
        formulaIs(x, 4, 4, 2, 3);
        formulaIs(x, 5, 6, 4, -1);
        formulaIs(x, 6, 3, 0, -1);
        formulaIs(x, 7, 2, 25, -1);
        formulaIs(x, 8, 5, 6, 7);
        formulaIs(x, 9, 7, 8, -1);
        Checks.read(x, 0, "a" + "&a".repeat(145));
        c.due("formulas()", x.formulas(), 300);
        formulaIs(x, 299, 5, 298, 6);
    }

    private void formulaIs(ModalDesk x, int f, int sort, int first, int second) {
        c.due("formula(" + f + ", 0)", x.formula(f, 0), sort);
        c.due("formula(" + f + ", 1)", x.formula(f, 1), first);
        c.due("formula(" + f + ", 2)", x.formula(f, 2), second);
    }

    private void formulaOfNone() {
        c.says("Promise 12", "NONE where there is none such, and for another what.");
        ModalDesk x = new ModalDesk();
        formulaIs(x, 2, -1, -1, -1);
        Checks.read(x, 0, "a&b");
        for (int f : new int[] {8, 9, 299, 300, MAX, -1, MIN}) {
            formulaIs(x, f, -1, -1, -1);
        }
        for (int f = -1; f <= 8; f++) {
            for (int what : new int[] {3, 4, -1, MIN, MAX}) {
                c.due("formula(" + f + ", " + what + ")", x.formula(f, what), -1);
            }
        }
        // what a read with a FAULT would have made is none
        Checks.read(x, 0, "c" + "&d".repeat(148));
        formulaIs(x, 8, -1, -1, -1);
    }

    // ---- Promise 13

    private void tell() {
        c.says("Promise 13", "OUT is the TEXT of FORMULA f, its first 400 bytes: how many bytes that are.");
        ModalDesk x = new ModalDesk();
        c.due("tell(0)", x.tell(0), 1);
        c.due("OUT", Checks.told(x), "T");
        c.due("tell(1)", x.tell(1), 1);
        c.due("OUT", Checks.told(x), "F");
        Checks.read(x, 0, "[](a&!z)");
        String[] texts = {"a", "!z", "(a&!z)", "[](a&!z)", "!a", "z", "(!a|z)", "<>(!a|z)"};
        for (int i = 0; i < texts.length; i++) {
            c.due("tell(" + (2 + i) + ")", x.tell(2 + i), texts[i].length());
            c.due("OUT", Checks.told(x), texts[i]);
        }
    }

    private void tellTheFirst400() {
        // b&b& .. with 98 signs has 393 bytes, each & more is four more
        tells("b" + "&b".repeat(99), 397, ')');
        tells("[](b" + "&b".repeat(99) + ")", 399, ')');
        tells("[](" + "b" + "&b".repeat(98) + "|!z)", 400, ')');
        tells("b" + "&b".repeat(100), 400, 'b');
        tells("[](b" + "&b".repeat(100) + ")", 400, ')');
        tells("[][](b" + "&b".repeat(100) + ")", 400, '&');
        tells("(b" + "&b".repeat(97) + ")|(a|b&a)", 400, ')');
        tells("(b" + "&b".repeat(98) + ")&c|[]c", 400, '[');
        tells("b" + "&b".repeat(147), 400, -2);
        // each = doubles the text
        tells("a" + "=a".repeat(35), 400, '(');
        // what was not told of one is not told with the next one
        ModalDesk x = new ModalDesk();
        int f = Checks.read(x, 0, "b" + "&b".repeat(100));
        c.due("tell of 401 bytes", x.tell(f), 400);
        c.due("tell(0)", x.tell(0), 1);
        c.due("OUT", Checks.told(x), "T");
        c.due("tell of three more", x.tell(3), 5);
        c.due("OUT", Checks.told(x), "(b&b)");
    }

    /** The text of what is read has so many bytes, and this one is the last of them. */
    private void tells(String text, int bytes, int last) {
        ModalDesk x = new ModalDesk();
        int f = Checks.read(x, 0, text);
        String shown = text.substring(0, 9) + ".. (" + text.length() + " bytes)";
        c.due("read of " + shown, f > 0, true);
        c.due("tell of " + shown, x.tell(f), bytes);
        c.due("the byte behind the last of " + shown, x.out(bytes), -1);
        if (last != -2) {
            c.due("the last byte of " + shown, x.out(bytes - 1), last);
        }
        c.due("take() of " + shown, x.take(), bytes);
    }

    private void tellNone() {
        c.says("Promise 13", "NONE, and OUT stays, if there is none such.");
        ModalDesk x = new ModalDesk();
        c.due("tell(2)", x.tell(2), -1);
        c.due("OUT stays empty", x.out(0), -1);
        Checks.read(x, 0, "a&b");
        x.tell(4);
        for (int f : new int[] {8, 9, 299, 300, MAX, -1, MIN}) {
            c.due("tell(" + f + ")", x.tell(f), -1);
            c.due("OUT stays", Checks.told(x), "(a&b)");
        }
    }
}
