/** Terms 3 and 4: what holds in a model, what is done at a SET, what is counted, and what is too much. */
final class EdgesOfTableaus {
    private final Checks c;

    EdgesOfTableaus(Checks c) {
        this.c = c;
    }

    void all() {
        seen();
        holds();
        begun();
        firstOfThese();
        clash();
        both();
        self();
        either();
        next();
        leadsBack();
        newWorld();
        gone();
        steps();
        spent();
        worlds61();
        eithers401();
        lines1300();
        linesOfOpen();
        proofOfClash();
        proofOfTheOthers();
        model();
    }

    // ---- what is looked at again and again

    /** A desk that has read these, so that their FORMULAS have the least numbers. */
    private static ModalDesk behind(String... texts) {
        ModalDesk x = new ModalDesk();
        for (String text : texts) {
            Checks.read(x, 1, text);
        }
        return x;
    }

    private ModalDesk proved(ModalDesk x, String text, int verdict, int... counts) {
        c.due("read of " + text, Checks.read(x, 0, text) >= 0, true);
        c.due("prove of " + text, x.prove(0, 100000), verdict);
        for (int what = 0; what < 4; what++) {
            c.due("count(" + what + ") of " + text, x.count(what), counts[what]);
        }
        return x;
    }

    /** CLOSED with these lines, each rule.number. */
    private void closed(ModalDesk x, String text, int steps, int worlds, int way, String lines) {
        proved(x, text, 1, steps, worlds, 0, way);
        c.due("proof() of " + text, x.proof(), 3 * lines.split(" ").length);
        c.due("lines of " + text, Checks.toldLines(x), lines);
    }

    private void closed(String text, int steps, int worlds, int way, String lines) {
        closed(new ModalDesk(), text, steps, worlds, way, lines);
    }

    /** OPEN in worlds whose SETS have so many FORMULAS. */
    private ModalDesk open(String text, int steps, int... sizes) {
        ModalDesk x = new ModalDesk();
        c.due("read of " + text, Checks.read(x, 0, text) >= 0, true);
        c.due("prove of " + text, x.prove(0, 100000), 0);
        c.due("count(0) of " + text, x.count(0), steps);
        c.due("worlds() of " + text, x.worlds(), sizes.length);
        for (int a = 0; a < sizes.length; a++) {
            c.due("world(" + a + ", 3) of " + text, x.world(a, 3), sizes[a]);
        }
        return x;
    }

    private void sight(ModalDesk x, String... rows) {
        c.due("worlds()", x.worlds(), rows.length);
        for (int a = 0; a < rows.length; a++) {
            for (int b = 0; b < rows.length; b++) {
                c.due("sees(" + a + ", " + b + ")", x.sees(a, b), rows[a].charAt(b) == '1');
            }
        }
    }

    private void holdsAt(ModalDesk x, String text, String want) {
        int f = Checks.read(x, 7, text);
        for (int a = 0; a < want.length(); a++) {
            c.due(text + " holds at " + a, x.holds(a, f), want.charAt(a) == '1');
        }
    }

    /** Stopped with -3 or -4; counts are of what there was by then. */
    private void stopped(String text, int fuel, int verdict, int... counts) {
        ModalDesk x = new ModalDesk();
        c.due("read of " + text, Checks.read(x, 0, text) >= 0, true);
        c.due("prove of " + text + " with " + fuel, x.prove(0, fuel), verdict);
        for (int what = 0; what < 4; what++) {
            c.due("count(" + what + ") of " + text + " with " + fuel, x.count(what), counts[what]);
        }
        c.due("proof() of " + text, x.proof(), -1);
        c.due("worlds() of " + text, x.worlds(), 0);
    }

    /** One text behind another, with & between. */
    private static String all(String pattern, char from, char to) {
        StringBuilder b = new StringBuilder();
        for (char p = from; p <= to; p++) {
            b.append(b.length() == 0 ? "" : "&").append(pattern.replace('?', p));
        }
        return b.toString();
    }

    // ---- Terms 3

    /** World 0 with a, 1 with b, 2 with a and c, one behind another. */
    private ModalDesk threeWorlds() {
        return open("!(a&<>(b&<>(a&c)))", 5, 3, 3, 3);
    }

    private void seen() {
        c.says("Terms 3", "A MODEL has WORLDS, numbered from 0 on;");
        ModalDesk x = threeWorlds();
        c.due("worlds()", x.worlds(), 3);
        c.throwsAtSees(x, 3, 0);
        c.throwsAtSees(x, 0, 3);
        c.throwsAtSees(x, -1, 0);
        c.says("Terms 3", "of each letter and world it tells whether the letter holds there;");
        holdsAt(x, "a", "101");
        holdsAt(x, "b", "010");
        holdsAt(x, "c", "001");
        holdsAt(x, "z", "000");
        c.says("Terms 3", "of each two whether the second one is SEEN from the first one: each is from itself, "
            + "and what is SEEN from one that is SEEN from a world is from that, too.");
        sight(x, "111", "011", "001");
        // sixty behind one another: all that are behind a world are SEEN from it
        ModalDesk y = new ModalDesk();
        Checks.read(y, 0, "[]".repeat(59) + "z");
        c.due("prove", y.prove(0, 100), 0);
        for (int a = 0; a < 59; a += 7) {
            c.due("world(" + a + ", 2)", y.world(a, 2), 60 - a);
            c.due("sees(" + a + ", 59)", y.sees(a, 59), true);
            c.due("sees(59, " + a + ")", y.sees(59, a), false);
        }
    }

    private void holds() {
        ModalDesk x = threeWorlds();
        c.says("Terms 3", "At a world T holds, F does not; a letter as it is told, its opposite otherwise;");
        holdsAt(x, "T", "111");
        holdsAt(x, "F", "000");
        holdsAt(x, "a", "101");
        holdsAt(x, "!a", "010");
        holdsAt(x, "z", "000");
        holdsAt(x, "!z", "111");
        c.says("Terms 3", "BOTH if both parts do, EITHER if one does;");
        holdsAt(x, "a&c", "001");
        holdsAt(x, "a&b", "000");
        holdsAt(x, "T&T", "111");
        holdsAt(x, "a|b", "111");
        holdsAt(x, "b|c", "011");
        holdsAt(x, "c|a", "101");
        holdsAt(x, "F|F", "000");
        c.says("Terms 3", "NEED if its part holds at all worlds that are SEEN from it, MAY if it holds at one.");
        holdsAt(x, "[]a", "001");
        holdsAt(x, "[]b", "000");
        holdsAt(x, "[](b|c)", "011");
        holdsAt(x, "[]T", "111");
        holdsAt(x, "<>a", "111");
        holdsAt(x, "<>b", "110");
        holdsAt(x, "<>(a&!c)", "100");
        holdsAt(x, "<>F", "000");
        holdsAt(x, "<>[]c", "111");
        holdsAt(x, "[]<>b", "000");
    }

    // ---- Terms 4: what is done at a SET

    private void begun() {
        c.says("Terms 4", "THE TABLEAU of a formula (YES, NO as above) is begun with the SET of just NO, in world 0.");
        open("a", 0, 1);
        open("F", 0, 1);
        closed("T", 0, 1, 1, "0.1");
        // NO is what set makes it, too
        ModalDesk y = new ModalDesk();
        y.set(0, 1);
        c.due("prove of F", y.prove(0, 1), 0);
        y.set(0, 0);
        c.due("prove of T", y.prove(0, 1), 1);
    }

    private void firstOfThese() {
        c.says("Terms 4", "A SET is of FORMULAS. What is done at a SET, the first of these that can be:");
        // SELF ahead of EITHER ahead of NEXT, though their numbers are the other way round:
        // 3 <>a, 8 (b|c), 12 []!c, 14 []!b, 19 (3&8), 20 (19&12), 21 (20&14)
        closed(behind("<>a", "b|c", "[]!c", "[]!b"), "!(<>a&(b|c)&[]!c&[]!b)", 7, 1, 1,
            "1.21 1.20 1.19 2.12 2.14 3.8 0.6 0.7");
        // BOTH ahead of SELF: 3 []a, 8 (b&c), 11 (3|..), 12 (3&8)
        ModalDesk x = behind("[]a", "b&c");
        proved(x, "!([]a&(b&c))", 0, 3, 1, 0, 1);
        c.due("prove with two STEPS", x.prove(0, 2), -3);
        closed(behind("[]a", "b&!a"), "!([]a&(b&!a))", 3, 1, 1, "1.11 1.7 2.3 0.2");
    }

    private void clash() {
        c.says("Terms 4", "CLASH: it has F, or a letter and its opposite: it is CLOSED.");
        closed("!(F&[]a)", 1, 1, 1, "1.7 0.1");
        closed("!(a&!a)", 1, 1, 1, "1.5 0.3");
        // nothing else is done then
        closed("!(F&(a&b))", 1, 1, 1, "1.9 0.1");
        closed("!(!T&<>F)", 1, 1, 1, "1.5 0.1");
        // other letters' opposites are none
        open("!(a&!b)", 1, 3);
        open("!(a&b)", 1, 3);
        open("!(!a&T)", 1, 3);
        // nor is what is no letter: []a and <>!a come to a CLASH in the next world only
        // 3 <>!a, 4 a, 5 []a, 6 (3|5), 7 (5&3)
        closed("!([]a&<>!a)", 4, 2, 2, "1.7 2.5 4.3 2.5 0.4");
    }

    private void both() {
        c.says("Terms 4", "BOTH: the BOTH of the least number, of which it has not both parts: these come to it.");
        open("!((a&b)&(b&a))", 2, 5);
        open("!((a&b)&(b&c))", 3, 6);
        open("!((a&b)&(c&a))", 3, 6);
        open("!(T&T)", 1, 2);
        // 4 (c&d), 15 (a&b), 16 (15&4), 17 (16&!a)
        closed(behind("c&d"), "!((a&b)&(c&d)&!a)", 4, 1, 1, "1.17 1.16 1.4 1.15 0.12");
    }

    private void self() {
        c.says("Terms 4", "SELF: the NEED of the least number of which it has not the part: that comes to it.");
        open("![]a", 1, 2);
        open("!(a&[]a)", 1, 3);
        open("![][]a", 2, 3);
        // 3 []b, 11 []a, 12 (11&3), 13 (12&!a)
        closed(behind("[]b"), "!([]a&[]b&!a)", 4, 1, 1, "1.13 1.12 2.3 2.11 0.9");
    }

    private void either() {
        c.says("Terms 4", "EITHER: that of the least number of which it has neither part: the SET with the first part "
            + "is gone on with; if that is CLOSED, that with the second one; if it is, too, this one is CLOSED.");
        open("!(a&(a|b))", 1, 3);
        open("!(b&(a|b))", 1, 3);
        ModalDesk x = open("!(a|b)", 1, 2);
        holdsAt(x, "a", "1");
        holdsAt(x, "b", "0");
        x = open("!(!a&(a|b))", 3, 4);
        holdsAt(x, "a", "0");
        holdsAt(x, "b", "1");
        closed("!((!a&!b)&(a|b))", 4, 1, 1, "1.9 1.7 3.4 0.2 0.3");
        closed("!(F|F)", 2, 1, 1, "3.3 0.1 0.1");
        // 4 (c|d), 16 (a|b), 17 (16&4), 18 <>F, 19 (17&18)
        closed(behind("c|d"), "!((a|b)&(c|d)&<>F)", 12, 5, 2,
            "1.19 1.17 3.4 3.16 4.18 0.1 4.18 0.1 3.16 4.18 0.1 4.18 0.1");
    }

    private void next() {
        c.says("Terms 4", "NEXT: for each MAY of which it has not the part, by numbers: the START of a world: "
            + "that part and all NEEDS of the SET.");
        open("!(a&<>a)", 1, 3);
        open("!(a&(<>a&<>b))", 3, 5, 1);
        ModalDesk x = open("!(<>a&<>b)", 3, 3, 1, 1);
        holdsAt(x, "a", "010");
        holdsAt(x, "b", "001");
        x = proved(behind("<>b"), "!(<>a&<>b)", 0, 3, 3, 0, 2);
        holdsAt(x, "a", "001");
        holdsAt(x, "b", "010");
        // only the part and the NEEDS go along
        x = open("!(<>a&[]b&c)", 5, 6, 3);
        holdsAt(x, "b", "11");
        holdsAt(x, "c", "10");
        // a NEED that came to the SET by another one, too
        open("!(<>a&[][]b)", 5, 5, 4);
    }

    private void leadsBack() {
        c.says("Terms 4", "If this world, or one on the way to it from world 0, had just this START, the MAY LEADS there.");
        // 1 and 2 see each other; 3 and 4 do, too, as 1 and 2 are not on their way
        ModalDesk x = proved(new ModalDesk(), "!([]<>a&[]<>!a)", 0, 17, 5, 2, 3);
        sight(x, "11111", "01100", "01100", "00011", "00011");
        holdsAt(x, "a", "01001");
        // behind 55 others: what leads back wants no 61st world
        String inner = "(<>[]!a|<>[]a)";
        x = proved(new ModalDesk(), "[]".repeat(55) + inner, 0, 55 + 17, 60, 2, 58);
        c.due("worlds()", x.worlds(), 60);
        c.due("sees(58, 59)", x.sees(58, 59), true);
        c.due("sees(59, 58)", x.sees(59, 58), true);
        c.due("sees(58, 57)", x.sees(58, 57), false);
        stopped("[]".repeat(56) + inner, 100000, -4, 56 + 14, 60, 1, 59);
    }

    private void newWorld() {
        c.says("Terms 4", "Else a new world is begun with it; if that is CLOSED, so is this SET (no more MAYS are looked at); "
            + "else the MAY LEADS to the new one.");
        closed("!(<>F&<>a)", 2, 2, 2, "1.9 4.6 0.1");
        closed("!(<>a&<>F)", 3, 3, 2, "1.9 4.8 0.1");
        sight(open("!<>a", 1, 1, 1), "11", "01");
        c.says("Terms 4", "If none is CLOSED the SET is OPEN.");
        open("a", 0, 1);
        sight(open("!(<>a&<>!a)", 3, 3, 1, 1), "111", "010", "001");
    }

    private void gone() {
        c.says("Terms 4", "A world has the SET that is OPEN "
            + "(what was tried in it, or begun from it, ahead of that or in what was CLOSED is gone).");
        // <>b begins a world, <>F one that is CLOSED: both are gone as the second SET is gone on with
        ModalDesk x = proved(new ModalDesk(), "!(<>b&<>F|c)", 0, 5, 3, 0, 2);
        c.due("worlds()", x.worlds(), 1);
        c.due("world(0, 2)", x.world(0, 2), 1);
        c.due("world(0, 3)", x.world(0, 3), 2);
        holdsAt(x, "b", "0");
        holdsAt(x, "c", "1");
        // the next world is world 1 again
        x = proved(new ModalDesk(), "!(<>b&<>F|<>c)", 0, 6, 4, 0, 2);
        sight(x, "11", "01");
        c.due("world(0, 3)", x.world(0, 3), 2);
        c.due("world(1, 3)", x.world(1, 3), 1);
        holdsAt(x, "b", "00");
        holdsAt(x, "c", "01");
        // worlds 1 and 2 were one behind the other, and now they are not
        x = proved(new ModalDesk(), "!(<><>b&<>F|<>c&<>d)", 0, 9, 6, 0, 3);
        sight(x, "111", "010", "001");
        // in a world behind: what was seen from its first SET is not from its second one
        x = proved(new ModalDesk(), "!<>(<>b&<>F|c)", 0, 6, 4, 0, 3);
        sight(x, "11", "01");
        holdsAt(x, "c", "01");
        // of what an earlier tableau had nothing is left either
        x = threeWorlds();
        Checks.read(x, 0, "!(<>a&<>b)");
        c.due("prove", x.prove(0, 100), 0);
        sight(x, "111", "010", "001");
    }

    // ---- Terms 4: what is counted, what is too much

    private void steps() {
        c.says("Terms 4", "STEPS: 1 for each BOTH, SELF, for each of the two SETS of an EITHER as it is gone on with, "
            + "and for each MAY as it is looked at.");
        closed("T", 0, 1, 1, "0.1");
        open("!(a&b)", 1, 3);
        open("![]a", 1, 2);
        open("!(a|b)", 1, 2);
        open("!(F|b)", 2, 2);
        open("!<>a", 1, 1, 1);
        closed("[]T", 1, 2, 2, "4.3 0.1");
        // of MAYS that lead back it is a STEP, too, of those whose part is there it is none
        proved(new ModalDesk(), "!([]<>a&[]<>!a)", 0, 17, 5, 2, 3);
        open("!(a&<>a)", 1, 3);
    }

    private void spent() {
        c.says("Terms 4", "SPENT: a STEP more than the fuel (a STEP is counted ahead of what else there is).");
        for (String text : new String[] {"!((a&b)&c)", "!([]a&b)", "!((a|b)&c)", "!(F|b)", "!(<>a&b)"}) {
            stopped(text, 1, -3, 1, 1, 0, 1);
            ModalDesk x = new ModalDesk();
            Checks.read(x, 0, text);
            c.due("prove of " + text + " with 2", x.prove(0, 2), 0);
            c.due("count(0)", x.count(0), 2);
        }
        // the STEP for the MAY that wants a 61st world comes ahead of that being too much
        stopped("[]".repeat(60) + "z", 59, -3, 59, 60, 0, 60);
        stopped("[]".repeat(60) + "z", 60, -4, 60, 60, 0, 60);
        // so does that for a 401st EITHER
        stopped(eithers("(?|F)", 19, "(z|F)"), 820, -3, 820, 20, 0, 20);
        stopped(eithers("(?|F)", 19, "(z|F)"), 821, -4, 821, 20, 0, 20);
        // and for what would be the 1300th line
        stopped(eithers("(F|?)", 20, "z" + "&T".repeat(20)), 1299, -3, 1299, 21, 0, 21);
        stopped(eithers("(F|?)", 20, "z" + "&T".repeat(20)), 1300, -4, 1300, 21, 0, 21);
    }

    /** In world 0 and in so many more behind one another 20 EITHERS, in the last one what is told, too. */
    private static String eithers(String pattern, int more, String last) {
        return "!([](" + all(pattern, 'a', 't') + ")&" + "<>".repeat(more) + last + ")";
    }

    private void worlds61() {
        c.says("Terms 4", "GREAT (as it would be): a 61st world at one time (those that are gone don't count),");
        // behind one another
        proved(new ModalDesk(), "[]".repeat(59) + "z", 0, 59, 60, 0, 60);
        stopped("[]".repeat(60) + "z", 100000, -4, 60, 60, 0, 60);
        // on two ways
        String thirty = "<>".repeat(30) + "a&" + "<>".repeat(29);
        ModalDesk x = proved(new ModalDesk(), "!(" + thirty + "b)", 0, 60, 60, 0, 31);
        c.due("worlds()", x.worlds(), 60);
        stopped("!(" + thirty + "<>b)", 100000, -4, 61, 60, 0, 31);
        // beside one another: 26 and 26 and one and six, of which the last ones want a SELF, too
        String beside = all("<>?", 'a', 'z') + "&" + all("<>!?", 'a', 'z') + "&<>T&" + all("<>[]?", 'a', 'f');
        x = proved(new ModalDesk(), "!(" + beside + ")", 0, 58 + 59 + 6, 60, 0, 2);
        c.due("worlds()", x.worlds(), 60);
        stopped("!(" + beside + "&<>[]g)", 100000, -4, 59 + 60 + 6, 60, 0, 2);
        // 41 that are gone, then 41 others
        String way = "<>".repeat(40);
        x = proved(new ModalDesk(), "!(" + way + "F|" + way + "z)", 0, 1 + 40 + 1 + 40, 81, 0, 41);
        c.due("worlds()", x.worlds(), 41);
    }

    private void eithers401() {
        c.says("Terms 4", "a 401st EITHER whose second SET is yet to come (of all worlds on the way),");
        proved(new ModalDesk(), eithers("(?|F)", 19, "z"), 0, 820, 20, 0, 20);
        stopped(eithers("(?|F)", 19, "(z|F)"), 100000, -4, 821, 20, 0, 20);
        // 400 behind 401 that were too many, and behind 400 that were OPEN
        ModalDesk y = new ModalDesk();
        Checks.read(y, 0, eithers("(?|F)", 19, "z"));
        Checks.read(y, 1, eithers("(?|F)", 19, "(z|F)"));
        c.due("prove of 401", y.prove(1, 100000), -4);
        c.due("prove of 400", y.prove(0, 100000), 0);
        c.due("prove of 400 once more", y.prove(0, 820), 0);
        c.due("prove of 400 with less", y.prove(0, 819), -3);
        c.due("prove of 400 once more", y.prove(0, 820), 0);
        // 420 whose second SET has come
        proved(new ModalDesk(), eithers("(F|?)", 20, "z"), 0, 1281, 21, 0, 21);
        // 480 of which no more than 50 are on one way
        StringBuilder b = new StringBuilder("!(<>d&<>e&[](<>a&<>b&<>c");
        for (char p = 'f'; p < 'y'; p += 2) {
            b.append("&(").append(p).append("|").append((char) (p + 1)).append(")");
        }
        ModalDesk x = new ModalDesk();
        Checks.read(x, 0, b.append("))").toString());
        c.due("prove", x.prove(0, 100000), 0);
        c.due("worlds()", x.worlds(), 48);
        c.due("count(3)", x.count(3), 5);
    }

    private void lines1300() {
        c.says("Terms 4", "a 1300th line in a proof (of CLOSED and of what may become so; those that are gone don't count).");
        // 8 EITHERS, 256 ways of four lines each, 8 BOTHS: 1287 lines; each T more is one more
        StringBuilder b = new StringBuilder("!(");
        for (int i = 0; i < 8; i++) {
            b.append("(").append((char) ('a' + i)).append("|").append((char) ('k' + i)).append(")&");
        }
        b.append("<>(y&(x&!y))");
        ModalDesk x = new ModalDesk();
        Checks.read(x, 0, b + "&T".repeat(12) + ")");
        c.due("prove of 1299 lines", x.prove(0, 100000), 1);
        c.due("proof()", x.proof(), 3 * 1299);
        x = new ModalDesk();
        Checks.read(x, 0, b + "&T".repeat(13) + ")");
        c.due("prove of 1300 lines", x.prove(0, 100000), -4);
        c.due("proof()", x.proof(), -1);
        // 21 worlds of which each might have been CLOSED: 1281 lines, and one for each T
        proved(new ModalDesk(), eithers("(F|?)", 20, "z" + "&T".repeat(18)), 0, 1299, 21, 0, 21);
        // one too many: the last EITHER's CLASH, that EITHER, the CLASH of the one ahead of it
        stopped(eithers("(F|?)", 20, "z" + "&T".repeat(19)), 100000, -4, 1299, 21, 0, 21);
        stopped(eithers("(F|?)", 20, "z" + "&T".repeat(20)), 100000, -4, 1300, 21, 0, 21);
        stopped(eithers("(F|?)", 20, "z" + "&T".repeat(21)), 100000, -4, 1299, 21, 0, 21);
    }

    /** 48 worlds with some 50 STEPS each are OPEN, so their lines are gone. */
    private void linesOfOpen() {
        ModalDesk x = new ModalDesk();
        Checks.read(x, 0, "!(<>d&<>e&[](<>a&<>b&<>c&" + all("[]?", 'f', 'z') + "))");
        c.due("prove", x.prove(0, 100000), 0);
        c.due("worlds()", x.worlds(), 48);
        c.due("more STEPS than lines", x.count(0) > 1300, true);
        // .. and one that is CLOSED comes behind them
        x = new ModalDesk();
        Checks.read(x, 0, "!(<>d&[](<>a&<>b&" + all("[]?", 'f', 'z') + ")&<>F)");
        c.due("prove", x.prove(0, 100000), 1);
        c.due("proof()", x.proof() < 3 * x.count(0), true);
        x.take();
        c.due("verify(0)", x.verify(0), 1);
    }

    // ---- Terms 4: the proof, the model

    private void proofOfClash() {
        c.says("Terms 4", "THE PROOF of a SET that is CLOSED, in lines: CLASH: 0 and F's number, or the letter's "
            + "(the least of those; F is told ahead of letters).");
        String text = "!((a&b)&(!a&!b))";
        // a 2, b 4
        closed(behind("a", "b"), text, 3, 1, 1, "1.11 1.9 1.10 0.2");
        // b 2, a 4
        closed(behind("b", "a"), text, 3, 1, 1, "1.11 1.9 1.10 0.2");
        // !b 2, b 3, a 4
        closed(behind("!b", "a"), text, 3, 1, 1, "1.11 1.9 1.10 0.3");
        // !a 2, b 3, a 5, !b 6: the letter's number counts, not the opposite's
        closed(behind("!a&b"), text, 3, 1, 1, "1.13 1.11 1.12 0.3");
        // F and !a come to a at once
        closed("!(a&(F&!a))", 2, 1, 1, "1.7 1.6 0.1");
        closed("!(a&(!a&F))", 2, 1, 1, "1.7 1.6 0.1");
    }

    private void proofOfTheOthers() {
        c.says("Terms 4", "BOTH: 1 and its number, then the lines of the SET that it becomes. SELF: 2 likewise.");
        closed("!(a&!a)", 1, 1, 1, "1.5 0.3");
        closed("[]a>a", 2, 1, 1, "1.7 2.6 0.4");
        c.says("Terms 4", "EITHER: 3 and its number, the lines of the first SET, then those of the second one.");
        closed("a|b>b|a", 4, 1, 1, "1.11 1.10 3.9 0.6 0.5");
        c.says("Terms 4", "NEXT: 4 and the number of the MAY whose new world is CLOSED, then the lines of that.");
        closed("[]a>[][]a", 6, 3, 3, "1.9 2.5 4.8 2.5 4.3 2.5 0.4");
        closed("!(<>a&<>F)", 3, 3, 2, "1.9 4.8 0.1");
    }

    private void model() {
        c.says("Terms 4", "THE MODEL of a tableau that is OPEN: its worlds, in the order in which they were begun; "
            + "a letter holds at a world just if its SET has it; SEEN are those to which MAYS LEAD, and what follows by 3.");
        ModalDesk x = open("!(<>(a&<>b)&<>c)", 5, 3, 3, 1, 1);
        sight(x, "1111", "0110", "0010", "0001");
        holdsAt(x, "a", "0100");
        holdsAt(x, "b", "0010");
        holdsAt(x, "c", "0001");
        // of one world
        x = open("!(a&!b)", 1, 3);
        sight(x, "1");
        holdsAt(x, "a", "1");
        holdsAt(x, "b", "0");
        holdsAt(x, "c", "0");
    }
}
