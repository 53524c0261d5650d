import java.util.LinkedHashMap;
import java.util.Map;
import java.util.NoSuchElementException;
import java.util.function.Consumer;

/** The sentences ahead of promise 1: which refusal counts, and what stays as it was behind it. */
final class EdgesOfRefusals {
    private static final int MIN = Integer.MIN_VALUE;
    private static final int MAX = Integer.MAX_VALUE;

    private final Checks c;

    EdgesOfRefusals(Checks c) {
        this.c = c;
    }

    void all() {
        firstOfRead();
        firstOfWorld();
        firstOfTheOthers();
        nothingChanges();
        nothingChangesButTheFault();
        tapeIsEmpty();
        tapeIsFull();
    }

    // ---- what is looked at again and again

    /** A model of five worlds at hand, OUT and tape not empty, slots 0 and 3 not, a FAULT told. */
    private static ModalDesk withModel() {
        ModalDesk x = new ModalDesk();
        Checks.read(x, 0, "!([]<>a&[]<>!a)");
        Checks.read(x, 1, "[]a)");
        x.set(3, 2);
        x.prove(0, 100);
        x.tell(5);
        Checks.type(x, "b|c");
        return x;
    }

    /** A proof at hand, OUT and tape not empty, slots 0 and 3 not, a FAULT told. */
    private static ModalDesk withProof() {
        ModalDesk x = new ModalDesk();
        Checks.read(x, 0, "[]a>a");
        Checks.read(x, 1, "[]a)");
        x.set(3, 2);
        x.prove(0, 100);
        x.tell(5);
        Checks.type(x, "b|c");
        return x;
    }

    /** All that can be asked of a desk without a change of it, but for fault(). */
    private static String look(ModalDesk x) {
        StringBuilder b = new StringBuilder(Checks.told(x));
        int n = x.formulas();
        for (int f = 0; f < n; f++) {
            b.append(' ').append(x.formula(f, 0)).append('.').append(x.formula(f, 1)).append('.').append(x.formula(f, 2));
        }
        for (int slot = 0; slot < 8; slot++) {
            b.append(slot == 0 ? "; " : " ").append(x.slot(slot, 0)).append('.').append(x.slot(slot, 1));
        }
        for (int what = 0; what < 4; what++) {
            b.append(what == 0 ? "; " : " ").append(x.count(what));
        }
        for (int a = 0; a < x.worlds(); a++) {
            b.append("; ").append(x.world(a, 0)).append(' ').append(x.world(a, 2)).append(' ').append(x.world(a, 3)).append(' ');
            for (int w = 0; w < x.worlds(); w++) {
                b.append(x.sees(a, w) ? '1' : '0');
            }
            b.append(' ');
            for (int f = 0; f < n; f += 3) {
                b.append(x.holds(a, f) ? '1' : '0');
            }
        }
        return b.toString();
    }

    // ---- which one counts

    private void firstOfRead() {
        c.says("Refusals", "Where several refusals hold the first one that is told counts.");
        // no such slot, and a FAULT
        ModalDesk x = withModel();
        x.end(2);
        c.due("read(8, false) of b|", x.read(8, false), -1);
        c.due("fault(0) is the one that was", x.fault(0), 1);
        c.due("fault(1) is the one that was", x.fault(1), 3);
        c.due("the tape stays", x.end(2), 2);
        c.due("read(0, false) of b|", x.read(0, false), -2);
        c.due("fault(1)", x.fault(1), 2);
        // no such slot, and no room
        ModalDesk y = new ModalDesk();
        Checks.read(y, 0, "a" + "&a".repeat(148));
        c.due("read(-1, false) of b", Checks.read(y, -1, "b"), -1);
        c.due("fault(0)", y.fault(0), 0);
        c.due("set(8, 299)", y.set(8, 299), -1);
        c.due("set(8, 300)", y.set(8, 300), -1);
        // of FAULTS the place is first, then the number, and 4 is behind all
        c.due("read of b&", Checks.read(y, 0, "b&"), -2);
        c.due("fault(0)", y.fault(0), 1);
    }

    private void firstOfWorld() {
        // another what, and no such world
        ModalDesk x = withModel();
        ModalDesk none = new ModalDesk();
        for (int what : new int[] {4, -1, MIN, MAX}) {
            for (int a : new int[] {5, -1, MIN, MAX}) {
                c.due("world(" + a + ", " + what + ")", x.world(a, what), -1);
                c.due("world(" + a + ", " + what + ") without a model", none.world(a, what), -1);
            }
            c.due("world(0, " + what + ") without a model", none.world(0, what), -1);
        }
        // no such world, and no such FORMULA
        c.throwsAtHolds(x, 5, 999);
        c.throwsAtHolds(none, 0, -1);
        c.throwsAtSees(x, 5, -1);
    }

    private void firstOfTheOthers() {
        ModalDesk x = withModel();
        c.due("prove(8, 0)", x.prove(8, 0), -1);
        c.due("prove(5, 100001), empty", x.prove(5, 100001), -1);
        c.due("slot(8, 2)", x.slot(8, 2), -1);
        c.due("slot(5, 2), empty", x.slot(5, 2), -1);
        c.due("formula(999, 3)", x.formula(999, 3), -1);
        c.due("set(-1, -1)", x.set(-1, -1), -1);
        c.due("verify(8)", x.verify(8), -1);
    }

    // ---- what stays

    private static Map<String, Consumer<ModalDesk>> refused() {
        Map<String, Consumer<ModalDesk>> calls = new LinkedHashMap<>();
        calls.put("end(4)", x -> x.end(4));
        calls.put("end(-1)", x -> x.end(-1));
        calls.put("alter(3, 'd')", x -> x.alter(3, 'd'));
        calls.put("alter(-1, 'd')", x -> x.alter(-1, 'd'));
        calls.put("out(99)", x -> x.out(99));
        calls.put("read(8, false)", x -> x.read(8, false));
        calls.put("read(-1, true)", x -> x.read(-1, true));
        calls.put("fault(2)", x -> x.fault(2));
        calls.put("set(8, 0)", x -> x.set(8, 0));
        calls.put("set(0, 99)", x -> x.set(0, 99));
        calls.put("set(5, -1)", x -> x.set(5, -1));
        calls.put("slot(8, 0)", x -> x.slot(8, 0));
        calls.put("slot(0, 2)", x -> x.slot(0, 2));
        calls.put("formula(99, 0)", x -> x.formula(99, 0));
        calls.put("tell(99)", x -> x.tell(99));
        calls.put("tell(-1)", x -> x.tell(-1));
        calls.put("prove(8, 100)", x -> x.prove(8, 100));
        calls.put("prove(5, 100)", x -> x.prove(5, 100));
        calls.put("prove(3, 0)", x -> x.prove(3, 0));
        calls.put("prove(3, 100001)", x -> x.prove(3, 100001));
        calls.put("count(4)", x -> x.count(4));
        calls.put("verify(8)", x -> x.verify(8));
        calls.put("verify(5)", x -> x.verify(5));
        calls.put("sees(5, 0)", x -> x.sees(5, 0));
        calls.put("sees(0, -1)", x -> x.sees(0, -1));
        calls.put("holds(5, 0)", x -> x.holds(5, 0));
        calls.put("holds(0, 99)", x -> x.holds(0, 99));
        calls.put("world(5, 0)", x -> x.world(5, 0));
        calls.put("world(0, 4)", x -> x.world(0, 4));
        calls.put("cut(5)", x -> x.cut(5));
        calls.put("cut(-1)", x -> x.cut(-1));
        return calls;
    }

    private static void call(Consumer<ModalDesk> call, ModalDesk x) {
        try {
            call.accept(x);
        } catch (NoSuchElementException e) {
            // it is one of those that are refused so
        }
    }

    private void nothingChanges() {
        c.says("Refusals", "A call that is refused changes nothing but the tape,");
        for (Map.Entry<String, Consumer<ModalDesk>> call : refused().entrySet()) {
            ModalDesk x = withModel();
            String before = look(x);
            call(call.getValue(), x);
            c.due("all behind " + call.getKey(), look(x), before);
            tapeAndFaultStay(x, call.getKey());
            c.due("proof() behind " + call.getKey(), x.proof(), -1);
            ModalDesk y = withProof();
            before = look(y);
            call(call.getValue(), y);
            c.due("all behind " + call.getKey(), look(y), before);
            tapeAndFaultStay(y, call.getKey());
            c.due("proof() behind " + call.getKey(), y.proof(), 9);
            c.due("lines behind " + call.getKey(), Checks.toldLines(y), "1.7 2.6 0.4");
        }
        // proof() is refused where there is a model
        ModalDesk x = withModel();
        String before = look(x);
        c.due("proof()", x.proof(), -1);
        c.due("all behind proof()", look(x), before);
    }

    private void tapeAndFaultStay(ModalDesk x, String call) {
        c.due("fault(0) behind " + call, x.fault(0), 1);
        c.due("fault(1) behind " + call, x.fault(1), 3);
        c.due("the tape behind " + call, x.end(4), -1);
        c.due("the tape behind " + call, x.end(3), 3);
        Checks.textOf(x, x.read(6, false));
        c.due("what was on the tape behind " + call, Checks.told(x), "(b|c)");
    }

    private void nothingChangesButTheFault() {
        String[] texts = {"b&", "b&" + "!".repeat(61) + "c", "b&[]c", "b" + "&c".repeat(148)};
        int[] places = {2, 62, 2, -1};
        for (int fault = 1; fault <= 4; fault++) {
            for (ModalDesk x : new ModalDesk[] {withModel(), withProof()}) {
                String before = look(x);
                Checks.type(x, texts[fault - 1]);
                c.due("read with FAULT " + fault, x.read(0, fault == 3), -2);
                c.due("all behind FAULT " + fault, look(x), before);
                c.due("fault(0)", x.fault(0), fault);
                c.due("fault(1)", x.fault(1), places[fault - 1]);
                c.due("the tape behind FAULT " + fault, x.end(1), -1);
            }
        }
    }

    private void tapeIsEmpty() {
        c.says("Refusals", "which is empty behind each call that takes it.");
        ModalDesk x = withModel();
        c.due("read(0, false)", x.read(0, false) >= 0, true);
        c.due("the tape behind a read", x.end(1), -1);
        Checks.type(x, "b)");
        c.due("read(0, false)", x.read(0, false), -2);
        c.due("the tape behind a FAULT", x.end(1), -1);
        Checks.type(x, "b".repeat(401));
        c.due("read(0, false)", x.read(0, false), -2);
        c.due("the tape behind more than 400", x.end(1), -1);
        Checks.type(x, "b|c");
        c.due("verify(0)", x.verify(0), 0);
        c.due("the tape behind a verify", x.end(1), -1);
        ModalDesk y = withProof();
        y.proof();
        y.take();
        c.due("verify(0)", y.verify(0), 1);
        c.due("the tape behind a verify", y.end(1), -1);
        c.due("feed", y.feed(0, 0, 0, 0, 0), 20);
    }

    private void tapeIsFull() {
        ModalDesk x = withProof();
        x.proof();
        x.take();
        for (int n = 29; n <= 3989; n += 20) {
            c.due("feed", x.feed(0, 0, 0, 0, 0), n);
        }
        String before = look(x);
        c.due("feed at 3989", x.feed(-1, -1, -1, -1, -1), -1);
        c.due("all behind a feed that is refused", look(x), before);
        c.due("end(3990)", x.end(3990), -1);
        c.due("end(9)", x.end(9), 9);
        c.due("verify(0)", x.verify(0), 1);
    }
}
