import java.util.ArrayList;
import java.util.List;
import java.util.NoSuchElementException;

/** Long mixed runs of calls, each answer compared with that of NaiveDesk. */
public final class OracleTest {
    private static final int THROWN = Integer.MIN_VALUE;

    private static int wrong = 0;
    private static final int[] verdicts = new int[8];
    private static final int[] faults = new int[5];

    /** A small generator of its own, so that every run of the test is the same. */
    private long state;

    private ModalDesk desk = new ModalDesk();
    private NaiveDesk naive = new NaiveDesk();
    private final List<String> log = new ArrayList<>();
    private boolean differs = false;

    private OracleTest(long seed) {
        state = seed * 0x9E3779B97F4A7C15L + 12345;
    }

    private int any(int n) {
        state = state * 6364136223846793005L + 1442695040888963407L;
        return (int) ((state >>> 33) % n);
    }

    public static void main(String[] args) {
        int runs = args.length > 0 ? Integer.parseInt(args[0]) : 1200;
        for (int seed = 1; seed <= runs && wrong == 0; seed++) {
            new OracleTest(seed).run();
        }
        System.out.println("verdicts (-4 .. 1): " + verdicts[0] + " " + verdicts[1] + " . " + verdicts[3] + " " + verdicts[4]
            + " " + verdicts[5] + ", faults (0 .. 4): " + java.util.Arrays.toString(faults));
        if (wrong != 0) {
            System.out.println(wrong + " runs differ");
            System.exit(1);
        }
    }

    private void run() {
        for (int i = 0; log.size() < 400 && !differs; i++) {
            turn();
        }
        if (differs) {
            wrong++;
            for (String s : log) {
                System.out.println(s);
            }
        }
    }

    private void turn() {
        int k = any(20);
        if (k < 7) {
            type(text());
            read();
        } else if (k < 10) {
            proveAll();
        } else if (k < 12) {
            lookAtModel();
        } else if (k < 14) {
            checkProof();
        } else if (k < 16) {
            lookAtFormulas();
        } else {
            oddCall();
        }
    }

    private void read() {
        int slot = any(10) == 0 ? any(12) - 2 : any(4);
        boolean intuitionistic = any(3) == 0;
        int a = desk.read(slot, intuitionistic);
        same("read(" + slot + ", " + intuitionistic + ")", a, naive.read(slot, intuitionistic));
        same("fault(0)", desk.fault(0), naive.fault(0));
        same("fault(1)", desk.fault(1), naive.fault(1));
        same("formulas()", desk.formulas(), naive.formulas());
        faults[naive.fault(0)]++;
    }

    private void proveAll() {
        int slot = any(10) == 0 ? any(8) : any(4);
        int fuel = any(4) == 0 ? 1 + any(30) : any(10) == 0 ? any(3) * 100000 + any(2) : 3000;
        int verdict = naive.prove(slot, fuel);
        same("prove(" + slot + ", " + fuel + ")", desk.prove(slot, fuel), verdict);
        verdicts[verdict + 4]++;
        for (int what = -1; what < 5; what++) {
            same("count(" + what + ")", desk.count(what), naive.count(what));
        }
        if (verdict == 0 && !desk.holds(0, desk.slot(slot, 1))) {
            same("holds(0, NO)", 0, 1);
        }
        if (verdict == 1) {
            same("proof()", desk.proof(), naive.proof());
            same("take()", desk.take(), naive.take());
            same("verify(" + slot + ")", desk.verify(slot), 1);
            naive.verify(slot);
        }
    }

    private void lookAtModel() {
        int n = naive.worlds();
        same("worlds()", desk.worlds(), n);
        if (any(3) == 0) {
            same("fold()", desk.fold(), naive.fold());
        } else if (any(3) == 0) {
            int a = any(n + 1);
            same("cut(" + a + ")", cut(a), naiveCut(a));
        }
        n = naive.worlds();
        for (int i = 0; i < 8; i++) {
            int a = any(n + 2) - any(2);
            int b = any(n + 1);
            int f = any(naive.formulas() + 1) - any(2);
            int what = any(6) - 1;
            same("sees(" + a + ", " + b + ")", sees(a, b), naiveSees(a, b));
            same("holds(" + a + ", " + f + ")", holds(a, f), naiveHolds(a, f));
            same("world(" + a + ", " + what + ")", world(a, what), naiveWorld(a, what));
        }
    }

    private void checkProof() {
        same("proof()", desk.proof(), naive.proof());
        same("take()", desk.take(), naive.take());
        int n = desk.take();
        log.add("take()");
        if (n > 0 && any(2) == 0) {
            int i = any(n);
            int v = any(2) == 0 ? any(naive.formulas()) : any(5);
            same("alter(" + i + ", " + v + ")", desk.alter(i, v) ? 1 : 0, naive.alter(i, v) ? 1 : 0);
        }
        if (n > 0 && any(6) == 0) {
            int m = any(n + 2);
            same("end(" + m + ")", desk.end(m), naive.end(m));
        }
        if (n < 60) {
            for (int i = 0; i < n; i++) {
                same("out(" + i + ")", desk.out(i), naive.out(i));
            }
        } else {
            same("out(" + n + ")", desk.out(n), naive.out(n));
            int i = any(n);
            same("out(" + i + ")", desk.out(i), naive.out(i));
        }
        int slot = any(10) == 0 ? any(8) : any(4);
        same("verify(" + slot + ")", desk.verify(slot), naive.verify(slot));
    }

    private void lookAtFormulas() {
        int f = any(naive.formulas() + 2) - 1;
        for (int what = -1; what < 4; what++) {
            same("formula(" + f + ", " + what + ")", desk.formula(f, what), naive.formula(f, what));
        }
        int n = naive.tell(f);
        same("tell(" + f + ")", desk.tell(f), n);
        for (int i = -1; i <= n; i += 1 + any(1 + n / 5)) {
            same("out(" + i + ")", desk.out(i), naive.out(i));
        }
        int slot = any(10) - 1;
        if (any(2) == 0) {
            same("set(" + slot + ", " + f + ")", desk.set(slot, f), naive.set(slot, f));
        }
        same("slot(" + slot + ", 0)", desk.slot(slot, 0), naive.slot(slot, 0));
        same("slot(" + slot + ", 1)", desk.slot(slot, 1), naive.slot(slot, 1));
        same("slot(" + slot + ", 2)", desk.slot(slot, 2), naive.slot(slot, 2));
        if (any(3) == 0) {
            same("take()", desk.take(), naive.take());
            read();
        }
    }

    private void oddCall() {
        int i = any(30) - 4;
        int v = any(1000) * 7919;
        switch (any(5)) {
            case 0:
                same("end(" + i + ")", desk.end(i), naive.end(i));
                break;
            case 1:
                same("alter(" + i + ", " + v + ")", desk.alter(i, v) ? 1 : 0, naive.alter(i, v) ? 1 : 0);
                break;
            case 2:
                same("out(" + i + ")", desk.out(i), naive.out(i));
                break;
            case 3:
                same("fault(" + i + ")", desk.fault(i), naive.fault(i));
                break;
            default:
                same("verify(" + i + ")", desk.verify(i), naive.verify(i));
        }
    }

    // ---- texts

    private String text() {
        int kind = any(40);
        if (kind == 0) {
            return repeated();
        }
        if (kind == 1) {
            return deep();
        }
        if (kind < 10) {
            return lawful();
        }
        if (kind < 12) {
            return crowded();
        }
        int depth = 1 + any(5);
        StringBuilder b = new StringBuilder();
        write(b, depth, any(3) != 0);
        if (any(8) == 0 && b.length() > 0) {
            int at = any(b.length());
            String bytes = "ab()!&|>=[]<>TFA \n\0";
            if (any(2) == 0) {
                b.setCharAt(at, bytes.charAt(any(bytes.length())));
            } else {
                b.deleteCharAt(at);
            }
        }
        return b.toString();
    }

    /** Often a law of S4, or of intuitionistic logic, or close to one. */
    private String lawful() {
        String[] laws = {"X>X", "[](X>Y)>([]X>[]Y)", "[]X>[][]X", "<>[]<>[]X=<>[]X", "[]<>[]<>X=[]<>X", "!!(X|!X)",
            "((X>Y)>X)>X", "(X>Y)>(!Y>!X)", "!!!X>!X", "[](X&Y)=([]X&[]Y)", "<>(X|Y)=(<>X|<>Y)", "[]X|[]!X",
            "<>[]X>[]<>X", "[]<>X>Y", "X&(Y|X)=X", "!([]<>X&[]<>!X)", "([](X>[]Y)&<>X)>(X>[]<>Y)", "(X=Y)=(Y=X)"};
        String law = laws[any(laws.length)];
        StringBuilder x = new StringBuilder();
        StringBuilder y = new StringBuilder();
        write(x, any(3), true);
        write(y, any(3), true);
        return law.replace("X", "(" + x + ")").replace("Y", "(" + y + ")");
    }

    /** Denials with many worlds, or many ways. */
    private String crowded() {
        StringBuilder b = new StringBuilder("!([](T");
        int mays = any(6);
        for (int i = 0; i < mays; i++) {
            b.append("&<>").append((char) ('a' + i));
        }
        int eithers = any(8);
        for (int i = 0; i < eithers; i++) {
            b.append("&(").append((char) ('a' + any(9))).append("|!").append((char) ('a' + any(9))).append(")");
        }
        b.append(")");
        for (int i = any(4); i > 0; i--) {
            b.append("&<>[]").append(any(2) == 0 ? "" : "!").append((char) ('a' + any(6)));
        }
        return b.append(")").toString();
    }

    private String repeated() {
        String[] units = {"a>", "b&", "a=b|", "!a=", "(a>b)&", " ", "[]a>", "(c=d)=", "<>(a|b)&", "a=b=c=d="};
        String unit = units[any(units.length)];
        StringBuilder b = new StringBuilder();
        int n = any(3) == 0 ? 390 + any(20) : any(400);
        while (b.length() < n) {
            b.append(unit);
        }
        return b.append("a").toString();
    }

    private String deep() {
        String[] units = {"(", "!", "[]", "<>"};
        int n = 58 + any(5);
        StringBuilder b = new StringBuilder();
        int brackets = 0;
        boolean plain = any(2) == 0;
        for (int i = 0; i < n; i++) {
            int k = plain ? any(2) : any(4);
            b.append(units[k]);
            brackets += k == 0 ? 1 : 0;
        }
        b.append("a");
        for (int i = any(20) == 0 ? 1 : 0; i < brackets; i++) {
            b.append(any(5) == 0 ? "|b)" : ")");
        }
        return b.toString();
    }

    private void write(StringBuilder b, int depth, boolean modal) {
        if (any(12) == 0) {
            b.append(any(2) == 0 ? ' ' : '\n');
        }
        int k = depth == 0 ? 0 : any(12);
        if (k < 2) {
            b.append("abcaTF".charAt(any(any(6) == 0 ? 6 : 4)));
        } else if (k < 4) {
            b.append('!');
            write1(b, depth - 1, modal);
        } else if (k < 7 && modal) {
            b.append(any(2) == 0 ? "[]" : "<>");
            write1(b, depth - 1, modal);
        } else {
            write1(b, depth - 1, modal);
            b.append("&|>>=|".charAt(any(6)));
            write(b, depth - 1, modal);
        }
    }

    private void write1(StringBuilder b, int depth, boolean modal) {
        if (any(5) == 0) {
            write(b, depth, modal);
        } else {
            b.append('(');
            write(b, depth, modal);
            b.append(')');
        }
    }

    private void type(String text) {
        same("end(0)", desk.end(0), naive.end(0));
        for (int i = 0; i < text.length(); i += 20) {
            int[] v = new int[5];
            for (int k = 0; k < 20; k++) {
                int b = i + k < text.length() ? text.charAt(i + k) : 32;
                v[k / 4] = v[k / 4] << 8 | b;
            }
            same("feed(" + v[0] + ", " + v[1] + ", " + v[2] + ", " + v[3] + ", " + v[4] + ")",
                desk.feed(v[0], v[1], v[2], v[3], v[4]), naive.feed(v[0], v[1], v[2], v[3], v[4]));
        }
        if (any(15) != 0) {
            same("end(" + text.length() + ")", desk.end(text.length()), naive.end(text.length()));
        }
        log.add("  // " + text.replace("\n", "\\n"));
    }

    // ---- calls that may throw

    private int sees(int a, int b) {
        try {
            return desk.sees(a, b) ? 1 : 0;
        } catch (NoSuchElementException e) {
            return THROWN;
        }
    }

    private int naiveSees(int a, int b) {
        try {
            return naive.sees(a, b) ? 1 : 0;
        } catch (NoSuchElementException e) {
            return THROWN;
        }
    }

    private int holds(int a, int f) {
        try {
            return desk.holds(a, f) ? 1 : 0;
        } catch (NoSuchElementException e) {
            return THROWN;
        }
    }

    private int naiveHolds(int a, int f) {
        try {
            return naive.holds(a, f) ? 1 : 0;
        } catch (NoSuchElementException e) {
            return THROWN;
        }
    }

    private int world(int a, int what) {
        try {
            return desk.world(a, what);
        } catch (NoSuchElementException e) {
            return THROWN;
        }
    }

    private int naiveWorld(int a, int what) {
        try {
            return naive.world(a, what);
        } catch (NoSuchElementException e) {
            return THROWN;
        }
    }

    private int cut(int a) {
        try {
            return desk.cut(a);
        } catch (NoSuchElementException e) {
            return THROWN;
        }
    }

    private int naiveCut(int a) {
        try {
            return naive.cut(a);
        } catch (NoSuchElementException e) {
            return THROWN;
        }
    }

    private void same(String call, int got, int want) {
        log.add(call + " -> " + got + (got == want ? "" : "  BUT DUE IS " + want));
        differs |= got != want;
    }
}
