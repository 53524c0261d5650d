/** Promises 1 to 6: a new object, the tape empty and full, OUT empty and full. */
final class EdgesOfTape {
    private static final int MIN = Integer.MIN_VALUE;
    private static final int MAX = Integer.MAX_VALUE;

    private final Checks c;

    EdgesOfTape(Checks c) {
        this.c = c;
    }

    void all() {
        newObject();
        afterAnother();
        calls512();
        feedBehind();
        feedFull();
        endAt();
        endRefused();
        take();
        takeTheLongest();
        alter();
        alterRefused();
        out();
        outRefused();
    }

    /** A desk in whose slot 0 is []b>b: its NO is 129, and 1.129 2.128 0.126 is its proof. */
    private static ModalDesk greatNumbers() {
        ModalDesk x = new ModalDesk();
        Checks.read(x, 1, "[]".repeat(60) + "a");
        Checks.read(x, 0, "[]b>b");
        return x;
    }

    /** A desk whose OUT is a proof of 1299 lines, of what is in slot 0. */
    static ModalDesk longestProof() {
        ModalDesk x = new ModalDesk();
        StringBuilder b = new StringBuilder("!(");
        for (int i = 0; i < 8; i++) {
            b.append("(").append((char) ('a' + i)).append("|").append((char) ('k' + i)).append(")&");
        }
        Checks.read(x, 0, b.append("<>(y&(x&!y))").append("&T".repeat(12)).append(")").toString());
        x.prove(0, 100000);
        x.proof();
        return x;
    }

    // ---- Promise 1

    private void newObject() {
        ModalDesk x = new ModalDesk();
        c.says("Promise 1", "T and F are there;");
        c.due("formulas()", x.formulas(), 2);
        c.due("formula(0, 0)", x.formula(0, 0), 0);
        c.due("formula(1, 0)", x.formula(1, 0), 1);
        c.due("formula(2, 0)", x.formula(2, 0), -1);
        c.says("Promise 1", "slots, tape, OUT are empty;");
        for (int slot = 0; slot < 8; slot++) {
            c.due("slot(" + slot + ", 0)", x.slot(slot, 0), -1);
            c.due("slot(" + slot + ", 1)", x.slot(slot, 1), -1);
            c.due("prove(" + slot + ", 1)", x.prove(slot, 1), -1);
            c.due("verify(" + slot + ")", x.verify(slot), -1);
        }
        c.due("end(1)", x.end(1), -1);
        c.due("alter(0, 0)", x.alter(0, 0), false);
        c.due("out(0)", x.out(0), -1);
        c.due("take()", x.take(), 0);
        c.due("read(0, false)", x.read(0, false), -2);
        c.due("fault(1)", x.fault(1), 0);
        c.says("Promise 1", "no proof, no model.");
        x = new ModalDesk();
        c.due("proof()", x.proof(), -1);
        c.due("worlds()", x.worlds(), 0);
        c.due("fold()", x.fold(), 0);
        c.throwsAtSees(x, 0, 0);
        c.throwsAtHolds(x, 0, 0);
        c.throwsAtWorld(x, 0, 0);
        c.throwsAtCut(x, 0);
    }

    /** What one desk has is none of the next one's. */
    private void afterAnother() {
        ModalDesk x = greatNumbers();
        x.prove(0, 100);
        x.proof();
        x.take();
        x.feed(1, 2, 3, 4, 5);
        newObjectIsEmpty(new ModalDesk());
        x.prove(1, 100000);
        newObjectIsEmpty(new ModalDesk());
    }

    private void newObjectIsEmpty(ModalDesk y) {
        c.due("formulas() of a new one", y.formulas(), 2);
        c.due("slot(0, 0) of a new one", y.slot(0, 0), -1);
        c.due("out(0) of a new one", y.out(0), -1);
        c.due("end(1) of a new one", y.end(1), -1);
        c.due("proof() of a new one", y.proof(), -1);
        c.due("worlds() of a new one", y.worlds(), 0);
    }

    private void calls512() {
        c.says("Use", "An object is used for at most 512 calls after it has been made; what later calls answer is free.");
        ModalDesk x = new ModalDesk();
        for (int call = 1; call <= 506; call += 2) {
            c.due("call " + call, x.feed(call, call, call, call, call), 20);
            c.due("call " + (call + 1), x.end(0), 0);
        }
        c.due("call 507", x.feed(0x5B5D613E, 0x61202020, 0x20202020, 0x20202020, 0x20202020), 20);
        c.due("call 508", x.read(7, false), 5);
        c.due("call 509", x.prove(7, 2), 1);
        c.due("call 510", x.proof(), 9);
        c.due("call 511", x.take(), 9);
        c.due("call 512", x.verify(7), 1);
    }

    // ---- Promise 2

    private void feedBehind() {
        c.says("Promise 2", "Twenty bytes come behind the tape, of each number the highest first: how many it has.");
        ModalDesk x = new ModalDesk();
        // a&b& c&d& e&f& g&h& !i>j
        c.due("feed", x.feed(0x61266226, 0x63266426, 0x65266626, 0x67266826, 0x21693E6A), 20);
        c.due("its text", Checks.textOf(x, x.read(0, false)), "(((((((((!a|!b)|!c)|!d)|!e)|!f)|!g)|!h)|i)|j)");
        // behind what is there, even if that is no twenty
        Checks.type(x, "a&");
        c.due("feed behind 2", x.feed(0x62202020, 0x20202020, 0x20202020, 0x0A0A0A0A, 0x0A0A0A0A), 22);
        c.due("its text", Checks.textOf(x, x.read(0, false)), "(a&b)");
        // bytes of 128 and more, one of them ahead in its number
        ModalDesk y = greatNumbers();
        c.due("feed", y.feed(0x01008102, 0x00800000, 0x7E000000, -1, MIN), 20);
        c.due("end(9)", y.end(9), 9);
        c.due("verify(0)", y.verify(0), 1);
        Checks.type(y, "\1");
        c.due("feed behind 1", y.feed(0x00810200, 0x8000007E, 0, 0, 0), 21);
        c.due("end(9)", y.end(9), 9);
        c.due("verify(0)", y.verify(0), 1);
        c.due("feed of the least", y.feed(MIN, MIN, MIN, MIN, MIN), 20);
    }

    private void feedFull() {
        c.says("Promise 2", "NONE, and nothing comes, if there would be more than 4000.");
        ModalDesk x = greatNumbers();
        x.feed(0x01008102, 0x00800000, 0x7E000000, 0, 0);
        for (int n = 40; n <= 4000; n += 20) {
            c.due("feed", x.feed(n, n, n, n, n), n);
        }
        c.due("feed at 4000", x.feed(0, 0, 0, 0, 0), -1);
        for (int n : new int[] {3999, 3990, 3981}) {
            c.due("end(" + n + ")", x.end(n), n);
            c.due("feed at " + n, x.feed(0, 0, 0, 0, 0), -1);
            c.due("nothing comes at " + n, x.end(n + 1), -1);
            c.due("nothing goes at " + n, x.end(n), n);
        }
        c.due("end(3980)", x.end(3980), 3980);
        c.due("feed at 3980", x.feed(0, 0, 0, 0, 0), 4000);
        c.due("the last byte", x.alter(3999, 0), true);
        c.due("none behind it", x.alter(4000, 0), false);
        c.due("feed at 4000", x.feed(MIN, MIN, MIN, MIN, MIN), -1);
        c.due("end(9)", x.end(9), 9);
        c.due("what was there stays", x.verify(0), 1);
    }

    // ---- Promise 3

    private void endAt() {
        c.says("Promise 3", "The tape has its first n bytes alone: n.");
        ModalDesk x = new ModalDesk();
        c.due("end(0) of an empty tape", x.end(0), 0);
        Checks.type(x, "a&b");
        c.due("end(3) of 3", x.end(3), 3);
        c.due("its text", Checks.textOf(x, x.read(0, false)), "(a&b)");
        Checks.type(x, "a&b");
        c.due("end(1) of 3", x.end(1), 1);
        c.due("its text", Checks.textOf(x, x.read(0, false)), "a");
        Checks.type(x, "a&b");
        c.due("end(0) of 3", x.end(0), 0);
        c.due("read", x.read(0, false), -2);
        c.due("fault(1)", x.fault(1), 0);
        // what is gone does not come again
        Checks.type(x, "a&b&c");
        c.due("end(2)", x.end(2), 2);
        c.due("end(5)", x.end(5), -1);
        c.due("feed", x.feed(0x64202020, 0x20202020, 0x20202020, 0x20202020, 0x20202020), 22);
        c.due("its text", Checks.textOf(x, x.read(0, false)), "(a&d)");
    }

    private void endRefused() {
        c.says("Promise 3", "NONE if it has not so many, or n is below 0.");
        ModalDesk x = new ModalDesk();
        c.due("end(1) of an empty tape", x.end(1), -1);
        c.due("end(-1) of an empty tape", x.end(-1), -1);
        Checks.type(x, "a&b");
        for (int n : new int[] {4, 20, 4000, 4001, MAX, -1, -3, MIN}) {
            c.due("end(" + n + ") of 3", x.end(n), -1);
        }
        c.due("its text stays", Checks.textOf(x, x.read(0, false)), "(a&b)");
    }

    // ---- Promise 4

    private void take() {
        c.says("Promise 4", "The tape is what OUT has, in place of what it had: how many bytes.");
        ModalDesk x = new ModalDesk();
        Checks.type(x, "a&b");
        c.due("take() of an empty OUT", x.take(), 0);
        c.due("end(1)", x.end(1), -1);
        Checks.read(x, 0, "a|b");
        x.tell(4);
        c.due("take() on an empty tape", x.take(), 5);
        c.due("end(6)", x.end(6), -1);
        c.due("read", x.read(1, false), 4);
        Checks.type(x, "something longer than OUT");
        c.due("take() on a longer tape", x.take(), 5);
        c.due("end(6)", x.end(6), -1);
        c.due("read", x.read(1, false), 4);
        Checks.type(x, "T");
        c.due("take() on a shorter tape", x.take(), 5);
        c.due("alter(1, 'c')", x.alter(1, 'c'), true);
        c.due("OUT stays", x.out(1), 'a');
        c.due("take() once more", x.take(), 5);
        c.due("read", x.read(1, false), 4);
    }

    private void takeTheLongest() {
        ModalDesk x = longestProof();
        c.due("take() of 1299 lines", x.take(), 3897);
        c.due("end(3898)", x.end(3898), -1);
        c.due("feed behind it", x.feed(0, 0, 0, 0, 0), 3917);
        c.due("end(3897)", x.end(3897), 3897);
        c.due("verify(0)", x.verify(0), 1);
        c.due("take()", x.take(), 3897);
        for (int n = 3917; n <= 3997; n += 20) {
            c.due("feed", x.feed(0, 0, 0, 0, 0), n);
        }
        c.due("feed at 3997", x.feed(0, 0, 0, 0, 0), -1);
        c.due("take() on a full tape", x.take(), 3897);
        c.due("verify(0)", x.verify(0), 1);
    }

    // ---- Promise 5

    private void alter() {
        c.says("Promise 5", "Byte i of the tape becomes the lowest eight bits of v: true;");
        ModalDesk x = new ModalDesk();
        Checks.type(x, "?????");
        c.due("alter(0, 'a')", x.alter(0, 'a'), true);
        c.due("alter(1, '|' + 256)", x.alter(1, '|' + 256), true);
        c.due("alter(2, 'b' - 256)", x.alter(2, 'b' - 256), true);
        c.due("alter(3, '&' + MIN)", x.alter(3, '&' + MIN), true);
        c.due("alter(4, 'z' + 0x7FFFFF00)", x.alter(4, 'z' + 0x7FFFFF00), true);
        c.due("its text", Checks.textOf(x, x.read(0, false)), "(a|(b&z))");
        // bytes of 128 and more
        ModalDesk y = greatNumbers();
        Checks.typeLines(y, 1, 0, 2, 0, 0, 126);
        c.due("alter(2, 0x81)", y.alter(2, 0x81), true);
        c.due("alter(5, -128)", y.alter(5, -128), true);
        c.due("verify(0)", y.verify(0), 1);
        Checks.typeLines(y, 1, 129, 2, 128, 0, 126);
        c.due("alter(4, -256)", y.alter(4, -256), true);
        c.due("verify(0)", y.verify(0), 1);
        Checks.typeLines(y, 1, 129, 2, 128, 0, 126);
        c.due("alter(4, -1)", y.alter(4, -1), true);
        c.due("verify(0)", y.verify(0), 0);
    }

    private void alterRefused() {
        c.says("Promise 5", "false if there is none such.");
        ModalDesk x = new ModalDesk();
        c.due("alter(0, 'a') of an empty tape", x.alter(0, 'a'), false);
        Checks.type(x, "a&b");
        for (int i : new int[] {3, 4, 20, 3999, 4000, MAX, -1, -3, MIN}) {
            c.due("alter(" + i + ", 'c') of 3", x.alter(i, 'c'), false);
        }
        c.due("alter(2, 'c') of 3", x.alter(2, 'c'), true);
        c.due("no byte comes", x.end(4), -1);
        c.due("its text", Checks.textOf(x, x.read(0, false)), "(a&c)");
        c.due("alter(0, 'a') behind a read", x.alter(0, 'a'), false);
    }

    // ---- Promise 6

    private void out() {
        c.says("Promise 6", "Byte i of OUT;");
        ModalDesk x = greatNumbers();
        x.prove(0, 100);
        c.due("proof()", x.proof(), 9);
        int[] bytes = {1, 0, 129, 2, 0, 128, 0, 0, 126};
        for (int i = 0; i < bytes.length; i++) {
            c.due("out(" + i + ")", x.out(i), bytes[i]);
        }
        c.due("tell(0)", x.tell(0), 1);
        c.due("out(0)", x.out(0), 'T');
        ModalDesk y = longestProof();
        c.due("out(3894)", y.out(3894), 0);
        c.due("out(3896)", y.out(3896) > 1, true);
    }

    private void outRefused() {
        c.says("Promise 6", "NONE if there is none such.");
        ModalDesk x = new ModalDesk();
        for (int i : new int[] {0, 1, -1, MIN, MAX}) {
            c.due("out(" + i + ") of an empty OUT", x.out(i), -1);
        }
        Checks.read(x, 0, "a&b");
        x.tell(4);
        for (int i : new int[] {5, 6, 3999, 4000, MAX, -1, -4, MIN}) {
            c.due("out(" + i + ") of 5", x.out(i), -1);
        }
        // what was longer is gone
        x.tell(0);
        c.due("out(1) of 1", x.out(1), -1);
        ModalDesk y = longestProof();
        c.due("out(3897)", y.out(3897), -1);
        c.due("out(4000)", y.out(4000), -1);
    }
}
