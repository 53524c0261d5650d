import java.util.ArrayList;
import java.util.HashMap;
import java.util.List;
import java.util.Map;
import java.util.NoSuchElementException;
import java.util.TreeSet;

/**
 * The document once more, written down as it reads, by recursion and with the Java library: what
 * ModalDesk answers is compared with what this answers.
 */
final class NaiveDesk {
    static final int NONE = -1;

    private static final class Fault extends RuntimeException {
        private static final long serialVersionUID = 1L;
        final int what;
        final int place;

        Fault(int what, int place) {
            this.what = what;
            this.place = place;
        }
    }

    private static final class Stop extends RuntimeException {
        private static final long serialVersionUID = 1L;
        final int answer;

        Stop(int answer) {
            this.answer = answer;
        }
    }

    /** A text: the sign of what it is, with its parts. */
    private record Text(String sign, Text x, Text y) {
    }

    private record Formula(int sort, int first, int second) {
    }

    private record Line(int rule, int number) {
    }

    private static final class World {
        final TreeSet<Integer> start;
        final World parent;
        TreeSet<Integer> set;
        List<World> leads = new ArrayList<>();

        World(TreeSet<Integer> start, World parent) {
            this.start = start;
            this.parent = parent;
        }

        int depth() {
            return parent == null ? 1 : 1 + parent.depth();
        }
    }

    private List<Integer> tape = new ArrayList<>();
    private List<Integer> told = new ArrayList<>();
    private List<Formula> stock = new ArrayList<>();
    private Map<Formula, Integer> numbers = new HashMap<>();
    private final int[] yes = new int[8];
    private final int[] no = new int[8];
    private int faultFound = 0;
    private int placeOfFault = NONE;
    private int[] counts = new int[4];
    private List<Line> proofAtHand = null;
    // the model: letters, who sees whom, sizes of sets
    private List<TreeSet<Integer>> letters = new ArrayList<>();
    private boolean[][] seen = new boolean[0][0];
    private int[] sizes = new int[0];

    NaiveDesk() {
        make(0, NONE, NONE);
        make(1, NONE, NONE);
        for (int i = 0; i < 8; i++) {
            yes[i] = NONE;
            no[i] = NONE;
        }
    }

    // ---- the tape

    int feed(int a, int b, int c, int d, int e) {
        if (tape.size() > 3980) {
            return NONE;
        }
        for (int v : new int[] {a, b, c, d, e}) {
            for (int k = 3; k >= 0; k--) {
                tape.add((v >> (8 * k)) & 0xff);
            }
        }
        return tape.size();
    }

    int end(int n) {
        if (n < 0 || n > tape.size()) {
            return NONE;
        }
        tape = new ArrayList<>(tape.subList(0, n));
        return n;
    }

    int take() {
        tape = new ArrayList<>(told);
        return tape.size();
    }

    boolean alter(int i, int v) {
        if (i < 0 || i >= tape.size()) {
            return false;
        }
        tape.set(i, v & 0xff);
        return true;
    }

    int out(int i) {
        return i < 0 || i >= told.size() ? NONE : told.get(i);
    }

    // ---- texts

    private List<Integer> text;
    private boolean intuitionistic;
    private int at;
    /** The sign that comes next, and where: "" at the end. */
    private String sign;
    private int place;

    private void advance() {
        while (at < text.size() && (text.get(at) == 10 || text.get(at) == 32)) {
            at++;
        }
        place = at;
        if (at >= 400 && text.size() > 400) {
            throw new Fault(1, 400);
        }
        if (at >= text.size()) {
            sign = "";
            place = text.size();
            return;
        }
        sign = "" + (char) (int) text.get(at);
        at++;
        boolean more = at < text.size() && at < 400;
        if (sign.equals("[") && more && text.get(at) == ']') {
            sign = "[]";
            at++;
        } else if (sign.equals("<") && more && text.get(at) == '>') {
            sign = "<>";
            at++;
        }
    }

    private Text whole() {
        at = 0;
        advance();
        Text t = same(0);
        if (!sign.isEmpty()) {
            throw new Fault(1, place);
        }
        return t;
    }

    private Text same(int open) {
        Text x = arrow(open);
        while (sign.equals("=")) {
            advance();
            x = new Text("=", x, arrow(open));
        }
        return x;
    }

    private Text arrow(int open) {
        Text x = or(open);
        if (sign.equals(">")) {
            advance();
            return new Text(">", x, arrow(open));
        }
        return x;
    }

    private Text or(int open) {
        Text x = and(open);
        while (sign.equals("|")) {
            advance();
            x = new Text("|", x, and(open));
        }
        return x;
    }

    private Text and(int open) {
        Text x = one(open);
        while (sign.equals("&")) {
            advance();
            x = new Text("&", x, one(open));
        }
        return x;
    }

    private Text one(int open) {
        String s = sign;
        if (s.length() == 1 && (s.charAt(0) >= 'a' && s.charAt(0) <= 'z' || s.equals("T") || s.equals("F"))) {
            advance();
            return new Text(s, null, null);
        }
        if (!s.equals("(") && !s.equals("!") && !s.equals("[]") && !s.equals("<>")) {
            throw new Fault(1, place);
        }
        if (open == 60) {
            throw new Fault(2, place);
        }
        if (intuitionistic && s.length() == 2) {
            throw new Fault(3, place);
        }
        advance();
        if (!s.equals("(")) {
            return new Text(s, one(open + 1), null);
        }
        Text x = same(open + 1);
        if (!sign.equals(")")) {
            throw new Fault(1, place);
        }
        advance();
        return x;
    }

    /** The S4 text that an intuitionistic one stands for. */
    private static Text standsFor(Text t) {
        Text x = t.x() == null ? null : standsFor(t.x());
        Text y = t.y() == null ? null : standsFor(t.y());
        switch (t.sign()) {
            case "T":
            case "F":
                return t;
            case "!":
                return new Text("[]", new Text("!", x, null), null);
            case ">":
                return new Text("[]", new Text(">", x, y), null);
            case "=":
                return new Text("&", new Text("[]", new Text(">", x, y), null), new Text("[]", new Text(">", y, x), null));
            case "&":
            case "|":
                return new Text(t.sign(), x, y);
            default:
                return new Text("[]", t, null);
        }
    }

    // ---- formulas

    private int make(int sort, int first, int second) {
        Formula f = new Formula(sort, first, second);
        if (!numbers.containsKey(f)) {
            numbers.put(f, stock.size());
            stock.add(f);
        }
        return numbers.get(f);
    }

    private int makeYes(Text t, Map<Text, int[]> known) {
        // one and the same text may stand in many places: without this = would take for ever
        int[] both = known.computeIfAbsent(t, k -> new int[] {NONE, NONE});
        if (both[0] == NONE) {
            both[0] = freshYes(t, known);
        }
        return both[0];
    }

    private int makeNo(Text t, Map<Text, int[]> known) {
        int[] both = known.computeIfAbsent(t, k -> new int[] {NONE, NONE});
        if (both[1] == NONE) {
            both[1] = freshNo(t, known);
        }
        return both[1];
    }

    private int freshYes(Text t, Map<Text, int[]> k) {
        int a;
        int b;
        switch (t.sign()) {
            case "T":
                return make(0, NONE, NONE);
            case "F":
                return make(1, NONE, NONE);
            case "!":
                return makeNo(t.x(), k);
            case "&":
                a = makeYes(t.x(), k);
                b = makeYes(t.y(), k);
                return make(4, a, b);
            case "|":
                a = makeYes(t.x(), k);
                b = makeYes(t.y(), k);
                return make(5, a, b);
            case ">":
                a = makeNo(t.x(), k);
                b = makeYes(t.y(), k);
                return make(5, a, b);
            case "=":
                a = makeNo(t.x(), k);
                b = makeYes(t.y(), k);
                int first = make(5, a, b);
                a = makeYes(t.x(), k);
                b = makeNo(t.y(), k);
                return make(4, first, make(5, a, b));
            case "[]":
                return make(6, makeYes(t.x(), k), NONE);
            case "<>":
                return make(7, makeYes(t.x(), k), NONE);
            default:
                return make(2, t.sign().charAt(0) - 'a', NONE);
        }
    }

    private int freshNo(Text t, Map<Text, int[]> k) {
        int a;
        int b;
        switch (t.sign()) {
            case "T":
                return make(1, NONE, NONE);
            case "F":
                return make(0, NONE, NONE);
            case "!":
                return makeYes(t.x(), k);
            case "&":
                a = makeNo(t.x(), k);
                b = makeNo(t.y(), k);
                return make(5, a, b);
            case "|":
                a = makeNo(t.x(), k);
                b = makeNo(t.y(), k);
                return make(4, a, b);
            case ">":
                a = makeYes(t.x(), k);
                b = makeNo(t.y(), k);
                return make(4, a, b);
            case "=":
                a = makeYes(t.x(), k);
                b = makeNo(t.y(), k);
                int first = make(4, a, b);
                a = makeNo(t.x(), k);
                b = makeYes(t.y(), k);
                return make(5, first, make(4, a, b));
            case "[]":
                return make(7, makeNo(t.x(), k), NONE);
            case "<>":
                return make(6, makeNo(t.x(), k), NONE);
            default:
                return make(3, t.sign().charAt(0) - 'a', NONE);
        }
    }

    /** Makes both; false, with nothing made, if there are too many then. */
    private boolean fill(int slot, Text t) {
        List<Formula> before = new ArrayList<>(stock);
        Map<Text, int[]> known = new java.util.IdentityHashMap<>();
        int y = makeYes(t, known);
        int n = makeNo(t, known);
        if (stock.size() > 300) {
            stock = before;
            numbers = new HashMap<>();
            for (int i = 0; i < stock.size(); i++) {
                numbers.put(stock.get(i), i);
            }
            return false;
        }
        yes[slot] = y;
        no[slot] = n;
        return true;
    }

    int read(int slot, boolean asIntuitionistic) {
        if (slot < 0 || slot > 7) {
            return NONE;
        }
        text = tape;
        tape = new ArrayList<>();
        intuitionistic = asIntuitionistic;
        faultFound = 0;
        placeOfFault = NONE;
        Text t;
        try {
            t = whole();
        } catch (Fault f) {
            faultFound = f.what;
            placeOfFault = f.place;
            return -2;
        }
        if (!fill(slot, intuitionistic ? standsFor(t) : t)) {
            faultFound = 4;
            return -2;
        }
        return yes[slot];
    }

    int fault(int what) {
        return what == 0 ? faultFound : what == 1 ? placeOfFault : NONE;
    }

    int set(int slot, int f) {
        if (slot < 0 || slot > 7 || f < 0 || f >= stock.size()) {
            return NONE;
        }
        return fill(slot, textOf(f, new HashMap<>())) ? no[slot] : -2;
    }

    private Text textOf(int f, Map<Integer, Text> known) {
        if (!known.containsKey(f)) {
            Formula g = stock.get(f);
            String letter = "" + (char) ('a' + g.first());
            Text t;
            switch (g.sort()) {
                case 0:
                    t = new Text("T", null, null);
                    break;
                case 1:
                    t = new Text("F", null, null);
                    break;
                case 2:
                    t = new Text(letter, null, null);
                    break;
                case 3:
                    t = new Text("!", new Text(letter, null, null), null);
                    break;
                case 4:
                case 5:
                    t = new Text(g.sort() == 4 ? "&" : "|", textOf(g.first(), known), textOf(g.second(), known));
                    break;
                default:
                    t = new Text(g.sort() == 6 ? "[]" : "<>", textOf(g.first(), known), null);
            }
            known.put(f, t);
        }
        return known.get(f);
    }

    int slot(int slot, int what) {
        if (slot < 0 || slot > 7 || what < 0 || what > 1) {
            return NONE;
        }
        return what == 0 ? yes[slot] : no[slot];
    }

    int formulas() {
        return stock.size();
    }

    int formula(int f, int what) {
        if (f < 0 || f >= stock.size() || what < 0 || what > 2) {
            return NONE;
        }
        Formula g = stock.get(f);
        return what == 0 ? g.sort() : what == 1 ? g.first() : g.second();
    }

    int tell(int f) {
        if (f < 0 || f >= stock.size()) {
            return NONE;
        }
        StringBuilder b = new StringBuilder();
        write(f, b);
        told = new ArrayList<>();
        for (int i = 0; i < b.length() && i < 400; i++) {
            told.add((int) b.charAt(i));
        }
        return told.size();
    }

    private void write(int f, StringBuilder b) {
        Formula g = stock.get(f);
        if (b.length() > 400) {
            return;
        }
        if (g.sort() < 2) {
            b.append(g.sort() == 0 ? 'T' : 'F');
        } else if (g.sort() < 4) {
            b.append(g.sort() == 3 ? "!" : "").append((char) ('a' + g.first()));
        } else if (g.sort() < 6) {
            b.append('(');
            write(g.first(), b);
            b.append(g.sort() == 4 ? '&' : '|');
            write(g.second(), b);
            b.append(')');
        } else {
            b.append(g.sort() == 6 ? "[]" : "<>");
            write(g.first(), b);
        }
    }

    // ---- the tableau

    private int fuel;
    private int yetToCome;
    private List<World> live;
    private List<Line> lines;

    private void step() {
        if (counts[0] == fuel) {
            throw new Stop(-3);
        }
        counts[0]++;
    }

    private void line(int rule, int number) {
        if (lines.size() == 1299) {
            throw new Stop(-4);
        }
        lines.add(new Line(rule, number));
    }

    private static <E> void cutBack(List<E> list, int n) {
        while (list.size() > n) {
            list.remove(list.size() - 1);
        }
    }

    private static TreeSet<Integer> with(TreeSet<Integer> set, int... more) {
        TreeSet<Integer> s = new TreeSet<>(set);
        for (int f : more) {
            s.add(f);
        }
        return s;
    }

    private int clashOf(TreeSet<Integer> set) {
        if (set.contains(1)) {
            return 1;
        }
        for (int f : set) {
            Formula g = stock.get(f);
            Integer opposite = numbers.get(new Formula(3, g.first(), NONE));
            if (g.sort() == 2 && opposite != null && set.contains(opposite)) {
                return f;
            }
        }
        return NONE;
    }

    /** True: CLOSED, its lines stand. */
    private boolean closes(TreeSet<Integer> set, World w) {
        int clash = clashOf(set);
        if (clash != NONE) {
            line(0, clash);
            return true;
        }
        for (int f : set) {
            Formula g = stock.get(f);
            if (g.sort() == 4 && !(set.contains(g.first()) && set.contains(g.second()))) {
                step();
                line(1, f);
                return closes(with(set, g.first(), g.second()), w);
            }
        }
        for (int f : set) {
            Formula g = stock.get(f);
            if (g.sort() == 6 && !set.contains(g.first())) {
                step();
                line(2, f);
                return closes(with(set, g.first()), w);
            }
        }
        for (int f : set) {
            Formula g = stock.get(f);
            if (g.sort() == 5 && !set.contains(g.first()) && !set.contains(g.second())) {
                step();
                if (yetToCome == 400) {
                    throw new Stop(-4);
                }
                line(3, f);
                yetToCome++;
                boolean closed = closes(with(set, g.first()), w);
                yetToCome--;
                if (!closed) {
                    return false;
                }
                step();
                return closes(with(set, g.second()), w);
            }
        }
        return next(set, w);
    }

    private boolean next(TreeSet<Integer> set, World w) {
        w.leads = new ArrayList<>();
        w.set = set;
        int worldsBefore = live.size();
        for (int f : set) {
            Formula g = stock.get(f);
            if (g.sort() != 7 || set.contains(g.first())) {
                continue;
            }
            step();
            TreeSet<Integer> start = new TreeSet<>();
            start.add(g.first());
            for (int h : set) {
                if (stock.get(h).sort() == 6) {
                    start.add(h);
                }
            }
            World home = w;
            while (home != null && !home.start.equals(start)) {
                home = home.parent;
            }
            if (home != null) {
                counts[2]++;
                w.leads.add(home);
                continue;
            }
            int linesBefore = lines.size();
            if (live.size() == 60) {
                throw new Stop(-4);
            }
            line(4, f);
            World v = begin(start, w);
            if (closes(start, v)) {
                cutBack(live, worldsBefore);
                return true;
            }
            cutBack(lines, linesBefore);
            w.leads.add(v);
        }
        return false;
    }

    private World begin(TreeSet<Integer> start, World parent) {
        World v = new World(start, parent);
        live.add(v);
        counts[1]++;
        counts[3] = Math.max(counts[3], v.depth());
        return v;
    }

    int prove(int slot, int steps) {
        if (slot < 0 || slot > 7 || no[slot] == NONE || steps < 1 || steps > 100000) {
            return NONE;
        }
        fuel = steps;
        counts = new int[4];
        yetToCome = 0;
        live = new ArrayList<>();
        lines = new ArrayList<>();
        TreeSet<Integer> start = with(new TreeSet<>(), no[slot]);
        boolean closed;
        try {
            closed = closes(start, begin(start, null));
        } catch (Stop s) {
            return s.answer;
        }
        letters = new ArrayList<>();
        seen = new boolean[0][0];
        sizes = new int[0];
        proofAtHand = closed ? lines : null;
        if (!closed) {
            keepModel();
        }
        return closed ? 1 : 0;
    }

    private void keepModel() {
        int n = live.size();
        seen = new boolean[n][n];
        sizes = new int[n];
        for (int w = 0; w < n; w++) {
            World world = live.get(w);
            sizes[w] = world.set.size();
            TreeSet<Integer> there = new TreeSet<>();
            for (int f : world.set) {
                if (stock.get(f).sort() == 2) {
                    there.add(stock.get(f).first());
                }
            }
            letters.add(there);
            seen[w][w] = true;
            for (World v : world.leads) {
                seen[w][live.indexOf(v)] = true;
            }
        }
        boolean more = true;
        while (more) {
            more = false;
            for (int a = 0; a < n; a++) {
                for (int b = 0; b < n; b++) {
                    for (int c = 0; c < n; c++) {
                        if (seen[a][b] && seen[b][c] && !seen[a][c]) {
                            seen[a][c] = true;
                            more = true;
                        }
                    }
                }
            }
        }
    }

    int count(int what) {
        return what < 0 || what > 3 ? NONE : counts[what];
    }

    int proof() {
        if (proofAtHand == null) {
            return NONE;
        }
        told = new ArrayList<>();
        for (Line l : proofAtHand) {
            told.add(l.rule());
            told.add(l.number() / 256);
            told.add(l.number() % 256);
        }
        return told.size();
    }

    // ---- the checker

    private List<Integer> bytes;
    private int done;

    int verify(int slot) {
        if (slot < 0 || slot > 7 || no[slot] == NONE) {
            return NONE;
        }
        bytes = tape;
        tape = new ArrayList<>();
        done = 0;
        return right(with(new TreeSet<>(), no[slot])) && done == bytes.size() ? 1 : 0;
    }

    private boolean right(TreeSet<Integer> set) {
        if (done + 3 > bytes.size()) {
            return false;
        }
        int rule = bytes.get(done);
        int f = 256 * bytes.get(done + 1) + bytes.get(done + 2);
        done += 3;
        if (!set.contains(f)) {
            return false;
        }
        Formula g = stock.get(f);
        if (rule == 0) {
            Integer opposite = numbers.get(new Formula(3, g.first(), NONE));
            return g.sort() == 1 || g.sort() == 2 && opposite != null && set.contains(opposite);
        }
        if (rule == 1 && g.sort() == 4) {
            return right(with(set, g.first(), g.second()));
        }
        if (rule == 2 && g.sort() == 6) {
            return right(with(set, g.first()));
        }
        if (rule == 3 && g.sort() == 5) {
            return right(with(set, g.first())) && right(with(set, g.second()));
        }
        if (rule == 4 && g.sort() == 7) {
            TreeSet<Integer> start = with(new TreeSet<>(), g.first());
            for (int h : set) {
                if (stock.get(h).sort() == 6) {
                    start.add(h);
                }
            }
            return right(start);
        }
        return false;
    }

    // ---- models

    int worlds() {
        return letters.size();
    }

    private void need(boolean there) {
        if (!there) {
            throw new NoSuchElementException();
        }
    }

    private boolean isWorld(int a) {
        return a >= 0 && a < letters.size();
    }

    boolean sees(int a, int b) {
        need(isWorld(a) && isWorld(b));
        return seen[a][b];
    }

    boolean holds(int a, int f) {
        need(isWorld(a) && f >= 0 && f < stock.size());
        return isTrue(a, f, new HashMap<>());
    }

    private boolean isTrue(int a, int f, Map<Long, Boolean> known) {
        long key = a * 1000L + f;
        if (!known.containsKey(key)) {
            known.put(key, freshTruth(a, f, known));
        }
        return known.get(key);
    }

    private boolean freshTruth(int a, int f, Map<Long, Boolean> known) {
        Formula g = stock.get(f);
        switch (g.sort()) {
            case 0:
                return true;
            case 1:
                return false;
            case 2:
                return letters.get(a).contains(g.first());
            case 3:
                return !letters.get(a).contains(g.first());
            case 4:
                return isTrue(a, g.first(), known) && isTrue(a, g.second(), known);
            case 5:
                return isTrue(a, g.first(), known) || isTrue(a, g.second(), known);
            default:
                boolean all = true;
                boolean one = false;
                for (int b = 0; b < letters.size(); b++) {
                    if (seen[a][b]) {
                        boolean there = isTrue(b, g.first(), known);
                        all &= there;
                        one |= there;
                    }
                }
                return g.sort() == 6 ? all : one;
        }
    }

    int world(int a, int what) {
        if (what < 0 || what > 3) {
            return NONE;
        }
        need(isWorld(a));
        int n = letters.size();
        if (what == 3) {
            return sizes == null ? NONE : sizes[a];
        }
        if (what == 2) {
            int k = 0;
            for (int b = 0; b < n; b++) {
                k += seen[a][b] ? 1 : 0;
            }
            return k;
        }
        List<TreeSet<Integer>> clusters = new ArrayList<>();
        for (int w = 0; w < n; w++) {
            TreeSet<Integer> cluster = new TreeSet<>();
            for (int v = 0; v < n; v++) {
                if (seen[w][v] && seen[v][w]) {
                    cluster.add(v);
                }
            }
            if (!clusters.contains(cluster)) {
                clusters.add(cluster);
            }
        }
        for (int c = 0; c < clusters.size(); c++) {
            if (clusters.get(c).contains(a)) {
                return what == 0 ? c : clusters.get(c).size();
            }
        }
        throw new IllegalStateException("a world is in no cluster");
    }

    /** The largest likeness of worlds: pairs that can be told apart are struck out till none is left. */
    int fold() {
        int n = letters.size();
        if (n == 0) {
            return 0;
        }
        boolean[][] alike = new boolean[n][n];
        for (int a = 0; a < n; a++) {
            for (int b = 0; b < n; b++) {
                alike[a][b] = letters.get(a).equals(letters.get(b));
            }
        }
        boolean more = true;
        while (more) {
            more = false;
            for (int a = 0; a < n; a++) {
                for (int b = 0; b < n; b++) {
                    if (alike[a][b] && !(follows(a, b, alike) && follows(b, a, alike))) {
                        alike[a][b] = false;
                        alike[b][a] = false;
                        more = true;
                    }
                }
            }
        }
        List<Integer> least = new ArrayList<>();
        int[] classOf = new int[n];
        for (int a = 0; a < n; a++) {
            int b = 0;
            while (!alike[a][b]) {
                b++;
            }
            if (b == a) {
                classOf[a] = least.size();
                least.add(a);
            } else {
                classOf[a] = classOf[b];
            }
        }
        List<TreeSet<Integer>> newLetters = new ArrayList<>();
        for (int a : least) {
            newLetters.add(letters.get(a));
        }
        boolean[][] newSeen = new boolean[least.size()][least.size()];
        for (int a = 0; a < n; a++) {
            for (int b = 0; b < n; b++) {
                newSeen[classOf[a]][classOf[b]] |= seen[a][b];
            }
        }
        letters = newLetters;
        seen = newSeen;
        sizes = null;
        return letters.size();
    }

    private boolean follows(int a, int b, boolean[][] alike) {
        for (int c = 0; c < letters.size(); c++) {
            boolean found = !seen[a][c];
            for (int d = 0; d < letters.size(); d++) {
                found |= seen[b][d] && alike[c][d];
            }
            if (!found) {
                return false;
            }
        }
        return true;
    }

    int cut(int a) {
        need(isWorld(a));
        List<Integer> kept = new ArrayList<>();
        kept.add(a);
        for (int b = 0; b < letters.size(); b++) {
            if (b != a && seen[a][b]) {
                kept.add(b);
            }
        }
        List<TreeSet<Integer>> newLetters = new ArrayList<>();
        boolean[][] newSeen = new boolean[kept.size()][kept.size()];
        for (int i = 0; i < kept.size(); i++) {
            newLetters.add(letters.get(kept.get(i)));
            for (int j = 0; j < kept.size(); j++) {
                newSeen[i][j] = seen[kept.get(i)][kept.get(j)];
            }
        }
        letters = newLetters;
        seen = newSeen;
        sizes = null;
        return letters.size();
    }
}
