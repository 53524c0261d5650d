/** The limits of promises 14 and 15: SPENT and GREAT, each with what was counted by then. */
public final class LimitsTest {
    private static final Checks c = new Checks();

    public static void main(String[] args) {
        tooManyWorlds();
        justEnoughWorlds();
        whatIsOpenDoesNotCount();
        tooManyEithers();
        tooManyLines();
        justEnoughLines();
        longestFuel();
        c.end("LimitsTest");
    }

    /** Runs a text on both desks; what is at hand stays, as the verdict is not 0 or 1. */
    private static ModalDesk stopped(String text, int fuel, int want) {
        ModalDesk x = new ModalDesk();
        NaiveDesk n = new NaiveDesk();
        Checks.read(x, 1, "z>[]z");
        x.prove(1, 10);
        type(n, "z>[]z");
        n.read(1, false);
        c.due("read of " + text, Checks.read(x, 0, text) >= 0, true);
        type(n, text);
        n.read(0, false);
        c.due("prove of " + text, x.prove(0, fuel), want);
        c.due("prove of " + text + ", done naively", n.prove(0, fuel), want);
        for (int what = 0; what < 4; what++) {
            c.due("count(" + what + ") of " + text, x.count(what), n.count(what));
        }
        c.due("the model at hand stays", x.worlds(), 2);
        c.due("no proof is at hand", x.proof(), -1);
        c.due("the sizes of its SETS stay", x.world(0, 3), 3);
        return x;
    }

    private static void type(NaiveDesk n, String text) {
        n.end(0);
        for (int i = 0; i < text.length(); i += 20) {
            n.feed(0, 0, 0, 0, 0);
        }
        n.end(text.length());
        for (int i = 0; i < text.length(); i++) {
            n.alter(i, text.charAt(i));
        }
    }

    private static String mays(int n) {
        StringBuilder b = new StringBuilder();
        for (int i = 0; i < n; i++) {
            b.append(i == 0 ? "" : "&").append("<>").append((char) ('a' + i));
        }
        return b.toString();
    }

    /** Four MAYS that are always there want a world for each way to go through them: 65. */
    private static void tooManyWorlds() {
        ModalDesk x = stopped("!([](" + mays(4) + "))", 100000, -4);
        c.due("count(1)", x.count(1), 60);
        c.due("count(3)", x.count(3), 5);
        // the STEP of the MAY that wants one more is counted, so fuel runs out only ahead of it
        int steps = x.count(0);
        stopped("!([](" + mays(4) + "))", steps, -4);
        stopped("!([](" + mays(4) + "))", steps - 1, -3);
    }

    private static ModalDesk open(String text, int worlds, int begun, int way) {
        ModalDesk x = new ModalDesk();
        c.due("read of " + text, Checks.read(x, 0, text) >= 0, true);
        c.due("prove of " + text, x.prove(0, 100000), 0);
        c.due("worlds() of " + text, x.worlds(), worlds);
        c.due("count(1) of " + text, x.count(1), begun);
        c.due("count(3) of " + text, x.count(3), way);
        c.due("the model of " + text, x.holds(0, x.slot(0, 1)), true);
        return x;
    }

    private static void justEnoughWorlds() {
        ModalDesk x = open("!([](" + mays(3) + "))", 16, 16, 4);
        c.due("fold()", x.fold(), 4);
        // one world behind another
        x = open(Checks.repeat("[]", 59) + "z", 60, 60, 60);
        c.due("sees(0, 59)", x.sees(0, 59), true);
        c.due("sees(59, 58)", x.sees(59, 58), false);
        c.due("world(59, 0)", x.world(59, 0), 59);
        c.due("world(0, 2)", x.world(0, 2), 60);
        c.due("cut(59)", x.cut(59), 1);
        ModalDesk y = stopped(Checks.repeat("[]", 60) + "z", 100000, -4);
        c.due("count(0)", y.count(0), 60);
        c.due("count(1)", y.count(1), 60);
        c.due("count(3)", y.count(3), 60);
        // the last of 60 worlds on one way is CLOSED, and so all are
        ModalDesk z = new ModalDesk();
        Checks.read(z, 0, Checks.repeat("[]", 59) + "T");
        c.due("prove", z.prove(0, 59), 1);
        c.due("count(1)", z.count(1), 60);
        c.due("proof()", z.proof(), 180);
        z.take();
        c.due("verify(0)", z.verify(0), 1);
        // worlds of what was CLOSED are gone: they are counted as begun, but not as there
        String way = Checks.repeat("<>", 40);
        open("!(" + way + "(y&!y)|" + way + "z)", 41, 81, 41);
        open("!(" + way + "z|" + way + "(y&!y))", 41, 41, 41);
    }

    /** Of OPEN worlds beside the way neither lines nor EITHERS count. */
    private static void whatIsOpenDoesNotCount() {
        StringBuilder b = new StringBuilder("!(<>d&<>e&[](" + mays(3));
        for (char p = 'f'; p <= 'z'; p++) {
            b.append("&[]").append(p);
        }
        ModalDesk x = open(b + "))", 48, 48, 5);
        c.due("more STEPS than lines", x.count(0) > 2000, true);
        b = new StringBuilder("!(<>d&<>e&[](" + mays(3));
        for (char p = 'f'; p < 'y'; p += 2) {
            b.append("&(").append(p).append("|").append((char) (p + 1)).append(")");
        }
        open(b + "))", 48, 48, 5);
    }

    /** In each world on the way some 26 EITHERS are tried, and 17 worlds are on the way at first. */
    private static void tooManyEithers() {
        StringBuilder b = new StringBuilder("!([](" + mays(16));
        for (int i = 0; i < 26; i++) {
            char p = (char) ('q' + i % 5);
            char q = (char) ('q' + i / 5 % 6);
            b.append("&((").append(p).append("&").append(q).append(")|F)");
        }
        ModalDesk x = stopped(b.append("))").toString(), 100000, -4);
        c.due("count(1) is below 60", x.count(1) < 60, true);
        c.due("count(0) is below what 1299 lines want", x.count(0) < 1299, true);
        // 20 EITHERS in each of 20 worlds, and one more
        b = new StringBuilder();
        for (char p = 'a'; p <= 't'; p++) {
            b.append(p == 'a' ? "" : "&").append("(").append(p).append("|F)");
        }
        String text = "!([](" + b + ")&" + Checks.repeat("<>", 19);
        open(text + "z)", 20, 20, 20);
        x = stopped(text + "(z|F))", 100000, -4);
        c.due("count(1)", x.count(1), 20);
        c.due("count(3)", x.count(3), 20);
    }

    private static void tooManyLines() {
        // ten EITHERS that do not matter, each doubling the proof of what does
        StringBuilder b = new StringBuilder("!(T");
        for (int i = 0; i < 10; i++) {
            b.append("&(").append((char) ('a' + i)).append("|").append((char) ('k' + i)).append(")");
        }
        b.append("&(<>(y&!y)))");
        stopped(b.toString(), 100000, -4);
        // with some more lines ahead the one that is too much is another one, a CLASH's among them
        for (int i = 1; i < 6; i++) {
            StringBuilder d = new StringBuilder("!(");
            for (int k = 0; k < i; k++) {
                d.append("[](T|").append((char) ('a' + k)).append(")&");
            }
            stopped(d.append(b.substring(2)).toString(), 100000, -4);
        }
    }

    /** 8 EITHERS, 256 ways of four lines each, 8 BOTHS: 1287 lines; each T more is one more. */
    private static void justEnoughLines() {
        for (int more = 0; more <= 14; more++) {
            StringBuilder b = new StringBuilder("!(");
            for (int i = 0; i < 8; i++) {
                b.append("(").append((char) ('a' + i)).append("|").append((char) ('k' + i)).append(")&");
            }
            b.append("<>(y&(x&!y))").append(Checks.repeat("&T", more)).append(")");
            if (more > 12) {
                stopped(b.toString(), 100000, -4);
                continue;
            }
            ModalDesk x = new ModalDesk();
            Checks.read(x, 0, b.toString());
            c.due("prove with " + more + " more", x.prove(0, 100000), 1);
            c.due("proof() with " + more + " more", x.proof(), 3 * (1287 + more));
            c.due("take()", x.take(), 3 * (1287 + more));
            c.due("verify(0)", x.verify(0), 1);
        }
    }

    /** Of each of 128 ways first a world is OPEN after many STEPS, then another one is CLOSED. */
    private static void longestFuel() {
        StringBuilder b = new StringBuilder("!(T");
        for (int i = 0; i < 7; i++) {
            b.append("&(").append((char) ('h' + i)).append("|").append((char) ('o' + i)).append(")");
        }
        b.append("&<>(d&[](").append(mays(3));
        for (char p = 'a'; p <= 'z'; p++) {
            b.append("&[](T|").append(p).append(")");
        }
        b.append("))&<>(y&!y))");
        ModalDesk x = stopped(b.toString(), 100000, -3);
        c.due("count(0)", x.count(0), 100000);
        c.due("prove(0, 20)", x.prove(0, 20), -3);
        c.due("count(0)", x.count(0), 20);
        c.due("prove(0, 100001)", x.prove(0, 100001), -1);
        c.due("count(0) stays", x.count(0), 20);
    }
}
