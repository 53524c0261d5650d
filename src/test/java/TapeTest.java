/** Promises 1 to 6: a new object; feed, end, take, alter, out. */
public final class TapeTest {
    private static final Checks c = new Checks();

    public static void main(String[] args) {
        newObject();
        feed();
        end();
        takeAndOut();
        alter();
        c.end("TapeTest");
    }

    private static void newObject() {
        ModalDesk x = new ModalDesk();
        c.due("NONE", ModalDesk.NONE, -1);
        c.due("formulas()", x.formulas(), 2);
        c.due("formula(0, 0)", x.formula(0, 0), 0);
        c.due("formula(1, 0)", x.formula(1, 0), 1);
        for (int slot = 0; slot < 8; slot++) {
            c.due("slot(" + slot + ", 0)", x.slot(slot, 0), -1);
            c.due("slot(" + slot + ", 1)", x.slot(slot, 1), -1);
            c.due("prove(" + slot + ", 10)", x.prove(slot, 10), -1);
            c.due("verify(" + slot + ")", x.verify(slot), -1);
        }
        c.due("out(0)", x.out(0), -1);
        c.due("end(1)", x.end(1), -1);
        c.due("end(0)", x.end(0), 0);
        c.due("take()", x.take(), 0);
        c.due("proof()", x.proof(), -1);
        c.due("worlds()", x.worlds(), 0);
        c.due("fold()", x.fold(), 0);
        c.due("fault(0)", x.fault(0), 0);
        c.due("fault(1)", x.fault(1), -1);
        for (int what = 0; what < 4; what++) {
            c.due("count(" + what + ")", x.count(what), 0);
        }
        c.throwsAtSees(x, 0, 0);
        c.throwsAtHolds(x, 0, 0);
        c.throwsAtWorld(x, 0, 0);
        c.throwsAtCut(x, 0);
    }

    private static void feed() {
        ModalDesk x = new ModalDesk();
        // "!a>(" "b&c)" and blanks: only this order of the bytes is a text
        c.due("feed", x.feed(0x21613E28, 0x62266329, 0x20202020, 0x0A0A0A0A, 0x20202020), 20);
        c.due("read(0, false)", x.read(0, false), 6);
        c.due("its text", Checks.textOf(x, 6), "(a|(b&c))");
        for (int n = 20; n <= 4000; n += 20) {
            c.due("feed", x.feed(n, -n, 0, -1, Integer.MIN_VALUE), n);
        }
        c.due("feed at 4000", x.feed(0, 0, 0, 0, 0), -1);
        c.due("end(4000)", x.end(4000), 4000);
        c.due("end(3981)", x.end(3981), 3981);
        c.due("feed at 3981", x.feed(0, 0, 0, 0, 0), -1);
        c.due("end(3982)", x.end(3982), -1);
        c.due("end(3980)", x.end(3980), 3980);
        c.due("feed at 3980", x.feed(0, 0, 0, 0, 0), 4000);
        c.due("alter(3999, 1)", x.alter(3999, 1), true);
        c.due("alter(4000, 1)", x.alter(4000, 1), false);
    }

    private static void end() {
        ModalDesk x = new ModalDesk();
        x.feed(0x612A2A2A, 0, 0, 0, 0);
        c.due("end(21)", x.end(21), -1);
        c.due("end(-1)", x.end(-1), -1);
        c.due("end(MIN)", x.end(Integer.MIN_VALUE), -1);
        c.due("end(MAX)", x.end(Integer.MAX_VALUE), -1);
        c.due("end(20)", x.end(20), 20);
        c.due("end(1)", x.end(1), 1);
        c.due("end(2)", x.end(2), -1);
        c.due("read of what is left", x.read(0, false), 2);
        c.due("end(0) behind a read", x.end(0), 0);
        c.due("end(1) behind a read", x.end(1), -1);
    }

    private static void takeAndOut() {
        ModalDesk x = new ModalDesk();
        Checks.read(x, 0, "<>(p&!q)");
        c.due("tell", x.tell(x.slot(0, 0)), 8);
        c.due("OUT", Checks.told(x), "<>(p&!q)");
        c.due("out(-1)", x.out(-1), -1);
        c.due("out(7)", x.out(7), ')');
        c.due("out(8)", x.out(8), -1);
        c.due("out(MAX)", x.out(Integer.MAX_VALUE), -1);
        c.due("out(MIN)", x.out(Integer.MIN_VALUE), -1);
        Checks.type(x, "something else that is longer");
        c.due("take()", x.take(), 8);
        c.due("end(9)", x.end(9), -1);
        c.due("OUT stays", Checks.told(x), "<>(p&!q)");
        c.due("read of what is taken", x.read(1, false), x.slot(0, 0));
        c.due("take() again", x.take(), 8);
        // a change of the tape is none of OUT
        c.due("alter(3, 'r')", x.alter(3, 'r'), true);
        c.due("OUT stays", Checks.told(x), "<>(p&!q)");
    }

    private static void alter() {
        ModalDesk x = new ModalDesk();
        c.due("alter(0, 1) of an empty tape", x.alter(0, 1), false);
        Checks.type(x, "a?b");
        c.due("alter(-1, 1)", x.alter(-1, 1), false);
        c.due("alter(3, 1)", x.alter(3, 1), false);
        c.due("alter(MIN, 1)", x.alter(Integer.MIN_VALUE, 1), false);
        c.due("alter(1, '&' + 256)", x.alter(1, '&' + 256), true);
        c.due("alter(0, 'c' - 512)", x.alter(0, 'c' - 512), true);
        c.due("end(4)", x.end(4), -1);
        c.due("read", x.read(0, false), 4);
        c.due("its text", Checks.textOf(x, 4), "(c&b)");
        c.due("alter behind a read", x.alter(0, 1), false);
        // a byte above 127 is a byte like others
        Checks.read(x, 0, "T");
        x.prove(0, 1);
        x.proof();
        x.take();
        x.alter(1, 0xFF);
        x.alter(2, 0xFF);
        c.due("verify of number 65535", x.verify(0), 0);
    }
}
