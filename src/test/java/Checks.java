import java.util.ArrayList;
import java.util.List;
import java.util.NoSuchElementException;

/** What the tests share: answers that are due, texts put on the tape, texts told. */
final class Checks {
    /** Words of the document, with the part of it in which they stand. */
    record Quote(String part, String words) {
    }

    private final List<Quote> quotes = new ArrayList<>();
    private String due = "due is ";
    private int wrong = 0;

    /** What is due from here on is due by these words of the document. */
    void says(String part, String words) {
        quotes.add(new Quote(part, words));
        due = part + " (" + words + "): due is ";
    }

    List<Quote> quotes() {
        return quotes;
    }

    void due(String call, long got, long want) {
        if (got != want) {
            wrong++;
            System.out.println(call + " answered " + got + ", " + due + want);
        }
    }

    void due(String call, boolean got, boolean want) {
        due(call, got ? 1 : 0, want ? 1 : 0);
    }

    void due(String call, String got, String want) {
        if (!got.equals(want)) {
            wrong++;
            System.out.println(call + " told " + got + ", " + due + want);
        }
    }

    void end(String test) {
        System.out.println(test + ": " + (wrong == 0 ? "all answers are as due" : wrong + " answers are not as due"));
        if (wrong != 0) {
            System.exit(1);
        }
    }

    /** The tape has just this text then. */
    static void type(ModalDesk desk, String text) {
        desk.end(0);
        for (int i = 0; i < text.length(); i += 20) {
            int[] v = new int[5];
            for (int k = 0; k < 20; k++) {
                v[k / 4] = v[k / 4] << 8 | (i + k < text.length() ? text.charAt(i + k) : ' ');
            }
            desk.feed(v[0], v[1], v[2], v[3], v[4]);
        }
        desk.end(text.length());
    }

    static int read(ModalDesk desk, int slot, String text) {
        type(desk, text);
        return desk.read(slot, false);
    }

    static int readIntuitionistic(ModalDesk desk, int slot, String text) {
        type(desk, text);
        return desk.read(slot, true);
    }

    /** What OUT has, as a text: each byte is asked for once, as a desk is good for 512 calls. */
    static String told(ModalDesk desk) {
        StringBuilder b = new StringBuilder();
        int next = desk.out(0);
        while (next != ModalDesk.NONE) {
            b.append((char) next);
            next = desk.out(b.length());
        }
        return b.toString();
    }

    /** What OUT has, as lines of a proof: rule.number rule.number .. */
    static String toldLines(ModalDesk desk) {
        String bytes = told(desk);
        StringBuilder b = new StringBuilder();
        for (int i = 0; i + 2 < bytes.length(); i += 3) {
            b.append(i == 0 ? "" : " ").append((int) bytes.charAt(i)).append('.');
            b.append(256 * bytes.charAt(i + 1) + bytes.charAt(i + 2));
        }
        return b.toString();
    }

    /** The tape has these lines of a proof then: rule, number, rule, number .. */
    static void typeLines(ModalDesk desk, int... lines) {
        StringBuilder b = new StringBuilder();
        for (int i = 0; i + 1 < lines.length; i += 2) {
            b.append((char) lines[i]).append((char) (lines[i + 1] / 256)).append((char) (lines[i + 1] % 256));
        }
        type(desk, b.toString());
    }

    static String textOf(ModalDesk desk, int f) {
        desk.tell(f);
        return told(desk);
    }

    static String repeat(String unit, int n) {
        return unit.repeat(n);
    }

    void throwsAtSees(ModalDesk desk, int a, int b) {
        boolean thrown = false;
        try {
            desk.sees(a, b);
        } catch (NoSuchElementException e) {
            thrown = true;
        }
        due("sees(" + a + ", " + b + ") throws NoSuchElementException", thrown, true);
    }

    void throwsAtHolds(ModalDesk desk, int a, int f) {
        boolean thrown = false;
        try {
            desk.holds(a, f);
        } catch (NoSuchElementException e) {
            thrown = true;
        }
        due("holds(" + a + ", " + f + ") throws NoSuchElementException", thrown, true);
    }

    void throwsAtWorld(ModalDesk desk, int a, int what) {
        boolean thrown = false;
        try {
            desk.world(a, what);
        } catch (NoSuchElementException e) {
            thrown = true;
        }
        due("world(" + a + ", " + what + ") throws NoSuchElementException", thrown, true);
    }

    void throwsAtCut(ModalDesk desk, int a) {
        boolean thrown = false;
        try {
            desk.cut(a);
        } catch (NoSuchElementException e) {
            thrown = true;
        }
        due("cut(" + a + ") throws NoSuchElementException", thrown, true);
    }
}
