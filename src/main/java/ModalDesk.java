import java.util.NoSuchElementException;

/**
 * A desk for S4: formulas are read, refuted by a tableau that finds its own loops, and come with a
 * proof that a checker goes over by rules alone, or with a finite model in which they fail.
 *
 * <p>All rows are made once, with the desk; no call makes an object but for an exception that the
 * document asks for.
 */
public final class ModalDesk {
    /** There is none. */
    public static final int NONE = -1;

    private static final int REFUSED = -2;
    private static final int SPENT = -3;
    private static final int GREAT = -4;
    private static final int CLOSED = 1;
    private static final int OPEN = 0;
    private static final int GOING_ON = 2;

    private static final int SLOTS = 8;
    private static final int TAPE_BYTES = 4000;
    private static final int TEXT_BYTES = 400;
    private static final int MOST_OPEN_SIGNS = 60;
    private static final int MOST_FORMULAS = 300;
    private static final int MOST_FUEL = 100000;
    private static final int MOST_WORLDS = 60;
    private static final int MOST_EITHERS = 400;
    private static final int MOST_LINES = 1299;
    private static final int LINE_BYTES = 3;
    private static final int COUNTS = 4;

    /** Far above what any run needs: it only shows that a loop ends. */
    private static final int TURNS = 1000000;

    /** The sorts of FORMULAS: the lowest bit turns each into the sort of its denial. */
    private static final int TRUE = 0;
    private static final int FALSE = 1;
    private static final int LETTER = 2;
    private static final int OPPOSITE = 3;
    private static final int BOTH = 4;
    private static final int EITHER = 5;
    private static final int NEED = 6;
    private static final int MAY = 7;
    private static final int SORTS = 8;

    /** The rules that a line of a proof may name. */
    private static final int BY_CLASH = 0;
    private static final int BY_BOTH = 1;
    private static final int BY_SELF = 2;
    private static final int BY_EITHER = 3;
    private static final int BY_NEXT = 4;

    private static final int CANT_STAND = 1;
    private static final int TOO_DEEP = 2;
    private static final int NOT_INTUITIONISTIC = 3;
    private static final int TOO_MANY = 4;

    private final ByteRow tape;
    private final ByteRow told;
    private final Stock stock;
    private final Draft draft;
    private final Reader reader;
    private final Writer writer;
    private final Tableau tableau;
    private final Checker checker;
    private final Model model;
    private final Lines proofAtHand;
    private final int[] yesOf;
    private final int[] noOf;

    public ModalDesk() {
        tape = new ByteRow();
        told = new ByteRow();
        stock = new Stock();
        draft = new Draft(stock);
        reader = new Reader(tape, draft);
        writer = new Writer(told, stock);
        // the tableau and the checker never run at the same time, so they hold their SETS in one place
        Sets held = new Sets(Checker.MOST_HELD);
        tableau = new Tableau(stock, held);
        checker = new Checker(tape, stock, held);
        model = new Model(stock);
        proofAtHand = new Lines();
        yesOf = new int[SLOTS];
        noOf = new int[SLOTS];
        for (int slot = 0; slot < SLOTS; slot++) {
            yesOf[slot] = NONE;
            noOf[slot] = NONE;
        }
    }

    // ---- the tape, what is told

    public int feed(int a, int b, int c, int d, int e) {
        if (tape.size() + 20 > TAPE_BYTES) {
            return NONE;
        }
        tape.pushNumber(a);
        tape.pushNumber(b);
        tape.pushNumber(c);
        tape.pushNumber(d);
        tape.pushNumber(e);
        return tape.size();
    }

    public int end(int n) {
        return tape.keep(n) ? n : NONE;
    }

    public int take() {
        tape.copy(told);
        return tape.size();
    }

    public boolean alter(int i, int v) {
        return tape.put(i, v);
    }

    public int out(int i) {
        return told.at(i);
    }

    // ---- formulas

    public int read(int slot, boolean intuitionistic) {
        if (!isSlot(slot)) {
            return NONE;
        }
        int mark = reader.draw(intuitionistic);
        tape.keep(0);
        if (mark == NONE) {
            return REFUSED;
        }
        if (!fill(slot, mark)) {
            reader.fail(TOO_MANY, NONE);
            return REFUSED;
        }
        return yesOf[slot];
    }

    public int fault(int what) {
        if (what == 0) {
            return reader.faultFound();
        }
        return what == 1 ? reader.placeOfFault() : NONE;
    }

    public int set(int slot, int f) {
        if (!isSlot(slot) || !stock.has(f)) {
            return NONE;
        }
        // every FORMULA came with its NO, so there is none to make, and never one too many
        yesOf[slot] = f;
        noOf[slot] = stock.denialOf(f);
        return noOf[slot];
    }

    public int slot(int slot, int what) {
        if (!isSlot(slot)) {
            return NONE;
        }
        if (what == 0) {
            return yesOf[slot];
        }
        return what == 1 ? noOf[slot] : NONE;
    }

    public int formulas() {
        return stock.size();
    }

    public int formula(int f, int what) {
        if (what == 0) {
            return stock.sortOf(f);
        }
        if (what == 1) {
            return stock.firstOf(f);
        }
        return what == 2 ? stock.secondOf(f) : NONE;
    }

    public int tell(int f) {
        if (!stock.has(f)) {
            return NONE;
        }
        writer.write(f);
        return told.size();
    }

    // ---- proofs and models

    public int prove(int slot, int fuel) {
        if (!isFilled(slot) || fuel < 1 || fuel > MOST_FUEL) {
            return NONE;
        }
        int verdict = tableau.run(noOf[slot], fuel);
        if (verdict == CLOSED) {
            proofAtHand.copy(tableau.lines());
            model.clear();
        } else if (verdict == OPEN) {
            proofAtHand.shorten(0);
            tableau.fillModel(model);
        }
        return verdict;
    }

    public int count(int what) {
        return tableau.countOf(what);
    }

    public int proof() {
        // every proof has a line, so a row without one is no proof
        if (proofAtHand.size() == 0) {
            return NONE;
        }
        proofAtHand.writeTo(told);
        return told.size();
    }

    public int verify(int slot) {
        if (!isFilled(slot)) {
            return NONE;
        }
        boolean right = checker.isRight(noOf[slot]);
        tape.keep(0);
        return right ? 1 : 0;
    }

    public int worlds() {
        return model.size();
    }

    public boolean sees(int a, int b) throws NoSuchElementException {
        if (!model.has(a) || !model.has(b)) {
            throw new NoSuchElementException("no such world");
        }
        return model.isSeen(a, b);
    }

    public boolean holds(int a, int f) throws NoSuchElementException {
        if (!model.has(a) || !stock.has(f)) {
            throw new NoSuchElementException("no such world, or formula");
        }
        return model.isTrueAt(a, f);
    }

    public int world(int a, int what) throws NoSuchElementException {
        if (what < 0 || what > 3) {
            return NONE;
        }
        if (!model.has(a)) {
            throw new NoSuchElementException("no such world");
        }
        if (what == 0) {
            return model.clusterOf(a);
        }
        if (what == 1) {
            return model.clusterSizeOf(a);
        }
        return what == 2 ? model.seenFrom(a) : model.setSizeOf(a);
    }

    public int fold() {
        model.foldUp();
        return model.size();
    }

    public int cut(int a) throws NoSuchElementException {
        if (!model.has(a)) {
            throw new NoSuchElementException("no such world");
        }
        model.cutTo(a);
        return model.size();
    }

    private static boolean isSlot(int slot) {
        return slot >= 0 && slot < SLOTS;
    }

    private boolean isFilled(int slot) {
        return isSlot(slot) && noOf[slot] != NONE;
    }

    /** Makes YES and NO of what is drafted; if they are too many, none of them stays. */
    private boolean fill(int slot, int mark) {
        int before = stock.size();
        int yes = draft.isOver() ? NONE : draft.build(mark);
        int no = yes == NONE ? NONE : draft.build(Draft.deny(mark));
        if (no == NONE) {
            stock.dropTo(before);
            return false;
        }
        draft.pairAll();
        yesOf[slot] = yes;
        noOf[slot] = no;
        return true;
    }

    /** Bytes, four to an int: every element counts in the room that all calls share. */
    private static final class ByteRow {
        private final int[] words = new int[TAPE_BYTES / 4];
        private int size;

        int size() {
            return size;
        }

        int at(int i) {
            if (i < 0 || i >= size) {
                return NONE;
            }
            return words[i >> 2] >>> 24 - 8 * (i & 3) & 255;
        }

        boolean put(int i, int v) {
            if (i < 0 || i >= size) {
                return false;
            }
            int shift = 24 - 8 * (i & 3);
            words[i >> 2] = words[i >> 2] & ~(255 << shift) | (v & 255) << shift;
            return true;
        }

        void push(int v) {
            if (size < TAPE_BYTES) {
                size++;
                put(size - 1, v);
            }
        }

        void pushNumber(int v) {
            push(v >>> 24);
            push(v >>> 16);
            push(v >>> 8);
            push(v);
        }

        boolean keep(int n) {
            if (n < 0 || n > size) {
                return false;
            }
            size = n;
            return true;
        }

        void copy(ByteRow from) {
            size = from.size;
            for (int i = 0; 4 * i < size && i < words.length; i++) {
                words[i] = from.words[i];
            }
        }
    }

    /** The lines of a proof, each as its three bytes in one int. */
    private static final class Lines {
        private final int[] rows = new int[MOST_LINES];
        private int size;

        int size() {
            return size;
        }

        boolean push(int rule, int f) {
            if (size >= rows.length) {
                return false;
            }
            rows[size] = rule << 16 | f;
            size++;
            return true;
        }

        void shorten(int n) {
            if (n >= 0 && n < size) {
                size = n;
            }
        }

        void copy(Lines from) {
            size = from.size;
            for (int i = 0; i < size && i < rows.length; i++) {
                rows[i] = from.rows[i];
            }
        }

        void writeTo(ByteRow bytes) {
            bytes.keep(0);
            for (int i = 0; i < size && i < rows.length; i++) {
                bytes.push(rows[i] >>> 16);
                bytes.push(rows[i] >>> 8);
                bytes.push(rows[i]);
            }
        }
    }

    /** Rows of SETS, in each a bit for each FORMULA. */
    private static final class Sets {
        static final int WORDS = (MOST_FORMULAS + 63) / 64;

        private final long[] words;

        Sets(int rows) {
            words = new long[Math.max(rows, 0) * WORDS];
        }

        boolean has(int row, int f) {
            return isPlace(row, f) && (words[row * WORDS + (f >> 6)] >>> (f & 63) & 1L) != 0L;
        }

        void put(int row, int f) {
            if (isPlace(row, f)) {
                words[row * WORDS + (f >> 6)] |= 1L << (f & 63);
            }
        }

        void drop(int row, int f) {
            if (isPlace(row, f)) {
                words[row * WORDS + (f >> 6)] &= ~(1L << (f & 63));
            }
        }

        /** The bits of FORMULAS 64 * k and on. */
        long bits(int row, int k) {
            return isPlace(row, 64 * k) ? words[row * WORDS + k] : 0L;
        }

        void empty(int row) {
            for (int k = 0; k < WORDS && isPlace(row, 0); k++) {
                words[row * WORDS + k] = 0L;
            }
        }

        void copy(int row, Sets from, int other) {
            boolean possible = isPlace(row, 0) && from.isPlace(other, 0);
            for (int k = 0; k < WORDS && possible; k++) {
                words[row * WORDS + k] = from.words[other * WORDS + k];
            }
        }

        /** Keeps of a row only what a row of another one has, too. */
        void meet(int row, Sets with, int other) {
            boolean possible = isPlace(row, 0) && with.isPlace(other, 0);
            for (int k = 0; k < WORDS && possible; k++) {
                words[row * WORDS + k] &= with.words[other * WORDS + k];
            }
        }

        boolean isSame(int row, int other) {
            boolean same = isPlace(row, 0) && isPlace(other, 0);
            for (int k = 0; k < WORDS && same; k++) {
                same = words[row * WORDS + k] == words[other * WORDS + k];
            }
            return same;
        }

        int sizeOf(int row) {
            int size = 0;
            for (int k = 0; k < WORDS; k++) {
                size += Long.bitCount(bits(row, k));
            }
            return size;
        }

        private boolean isPlace(int row, int f) {
            return f >= 0 && f < 64 * WORDS && row >= 0 && row < words.length / WORDS;
        }
    }

    /**
     * The FORMULAS that there are: parts have lower numbers than what they are parts of, and behind
     * each call every one has its denial, which is its NO, among them.
     */
    private static final class Stock {
        private final int[] sorts = new int[MOST_FORMULAS];
        private final int[] firsts = new int[MOST_FORMULAS];
        private final int[] seconds = new int[MOST_FORMULAS];
        private final int[] denials = new int[MOST_FORMULAS];
        private final Sets ofSort = new Sets(SORTS);
        private int size;

        Stock() {
            pair(append(TRUE, NONE, NONE), append(FALSE, NONE, NONE));
        }

        int size() {
            return size;
        }

        boolean has(int f) {
            return f >= 0 && f < size;
        }

        int sortOf(int f) {
            return has(f) ? sorts[f] : NONE;
        }

        /** The first part, or the letter. */
        int firstOf(int f) {
            return has(f) ? firsts[f] : NONE;
        }

        int secondOf(int f) {
            return has(f) ? seconds[f] : NONE;
        }

        int denialOf(int f) {
            return has(f) ? denials[f] : NONE;
        }

        /** A row for each sort: the FORMULAS that are of it. */
        Sets bySort() {
            return ofSort;
        }

        /** The number of the FORMULA, which is made if it isn't there; NONE if it would be too many. */
        int make(int sort, int first, int second) {
            int f = find(sort, first, second);
            return f != NONE ? f : append(sort, first, second);
        }

        void pair(int f, int denial) {
            if (has(f) && has(denial)) {
                denials[f] = denial;
                denials[denial] = f;
            }
        }

        void dropTo(int n) {
            for (int f = size - 1; f >= n && f >= 0; f--) {
                ofSort.drop(sorts[f], f);
                size = f;
            }
        }

        private int find(int sort, int first, int second) {
            for (int f = 0; f < size; f++) {
                if (sorts[f] == sort && firsts[f] == first && seconds[f] == second) {
                    return f;
                }
            }
            return NONE;
        }

        private int append(int sort, int first, int second) {
            if (size >= MOST_FORMULAS) {
                return NONE;
            }
            int f = size;
            size++;
            sorts[f] = sort;
            firsts[f] = first;
            seconds[f] = second;
            denials[f] = NONE;
            ofSort.put(sort, f);
            return f;
        }
    }

    /**
     * What a text says, ahead of any numbers. Its nodes are T, letters, BOTH and NEED; a mark is a
     * node as it is (even) or denied (odd), so that one tree gives a text's YES and its NO.
     *
     * <p>As both are made of every node, and those of two nodes are never the same FORMULAS, more
     * nodes than these would be more FORMULAS than there may be.
     */
    private static final class Draft {
        /** T is the first node of every draft. */
        static final int YES_OF_T = 0;

        private static final int MOST_NODES = MOST_FORMULAS / 2;

        private final Stock stock;
        private final int[] sorts = new int[MOST_NODES];
        private final int[] firsts = new int[MOST_NODES];
        private final int[] seconds = new int[MOST_NODES];
        private final int[] numbers = new int[2 * MOST_NODES];
        private final int[] way = new int[MOST_NODES];
        private int size;
        private boolean over;

        Draft(Stock stock) {
            this.stock = stock;
        }

        static int deny(int mark) {
            return mark ^ 1;
        }

        void clear() {
            size = 0;
            over = false;
            node(TRUE, NONE, NONE);
        }

        boolean isOver() {
            return over;
        }

        int letter(int letter) {
            return node(LETTER, letter, NONE);
        }

        int both(int x, int y) {
            return node(BOTH, x, y);
        }

        int either(int x, int y) {
            return deny(node(BOTH, deny(x), deny(y)));
        }

        int need(int x) {
            return node(NEED, x, NONE);
        }

        int may(int x) {
            return deny(node(NEED, deny(x), NONE));
        }

        /** The FORMULA of a mark, made with all its parts; NONE if there would be too many. */
        int build(int mark) {
            int top = 0;
            way[top] = mark;
            for (int turn = 0; turn < TURNS && top >= 0 && top < way.length; turn++) {
                int part = partToMake(way[top]);
                if (part == NONE) {
                    if (!number(way[top])) {
                        return NONE;
                    }
                    top--;
                } else {
                    top++;
                    push(top, part);
                }
            }
            return numberOf(mark);
        }

        /** Tells the stock, once both are made, which FORMULAS deny each other. */
        void pairAll() {
            for (int i = 0; i < size; i++) {
                stock.pair(numbers[2 * i], numbers[2 * i + 1]);
            }
        }

        private void push(int top, int mark) {
            if (top >= 0 && top < way.length) {
                way[top] = mark;
            }
        }

        private int node(int sort, int first, int second) {
            for (int i = 0; i < size; i++) {
                if (sorts[i] == sort && firsts[i] == first && seconds[i] == second) {
                    return 2 * i;
                }
            }
            if (size >= MOST_NODES) {
                over = true;
                return YES_OF_T;
            }
            int i = size;
            size++;
            sorts[i] = sort;
            firsts[i] = first;
            seconds[i] = second;
            numbers[2 * i] = NONE;
            numbers[2 * i + 1] = NONE;
            return 2 * i;
        }

        private boolean isMark(int mark) {
            return mark >= 0 && mark >> 1 < size;
        }

        private int numberOf(int mark) {
            return isMark(mark) ? numbers[mark] : NONE;
        }

        /** The first part without a number yet; NONE if all have one. */
        private int partToMake(int mark) {
            int first = firstPart(mark);
            if (first != NONE && numberOf(first) == NONE) {
                return first;
            }
            int second = secondPart(mark);
            return second != NONE && numberOf(second) == NONE ? second : NONE;
        }

        private int firstPart(int mark) {
            return isMark(mark) && sorts[mark >> 1] >= BOTH ? firsts[mark >> 1] ^ mark & 1 : NONE;
        }

        private int secondPart(int mark) {
            return isMark(mark) && sorts[mark >> 1] == BOTH ? seconds[mark >> 1] ^ mark & 1 : NONE;
        }

        private boolean number(int mark) {
            if (!isMark(mark)) {
                return false;
            }
            if (numbers[mark] == NONE) {
                int node = mark >> 1;
                int first = sorts[node] >= BOTH ? numberOf(firstPart(mark)) : firsts[node];
                int second = numberOf(secondPart(mark));
                numbers[mark] = stock.make(sorts[node] | mark & 1, first, second);
            }
            return numbers[mark] != NONE;
        }
    }

    /** Reads the tape as a TEXT into the draft, with two stacks in place of recursion. */
    private static final class Reader {
        private final ByteRow tape;
        private final Draft draft;
        private final int[] signs = new int[TEXT_BYTES];
        private final int[] marks = new int[TEXT_BYTES];
        private int signCount;
        private int markCount;
        private int open;
        private int brackets;
        private boolean operandDue;
        private boolean intuitionistic;
        private int fault;
        private int place = NONE;

        Reader(ByteRow tape, Draft draft) {
            this.tape = tape;
            this.draft = draft;
        }

        int faultFound() {
            return fault;
        }

        int placeOfFault() {
            return place;
        }

        void fail(int what, int where) {
            fault = what;
            place = where;
        }

        /** The mark of the text; NONE behind a FAULT. */
        int draw(boolean asIntuitionistic) {
            begin(asIntuitionistic);
            int limit = Math.min(tape.size(), TEXT_BYTES);
            for (int p = 0; p < limit && fault == 0; p++) {
                int sign = signAt(p);
                if (sign != ' ') {
                    accept(sign, p);
                }
                if (sign == '[' || sign == '<') {
                    p++;
                }
            }
            if (fault == 0) {
                finish();
            }
            return fault == 0 ? popMark() : NONE;
        }

        private void begin(boolean asIntuitionistic) {
            draft.clear();
            signCount = 0;
            markCount = 0;
            open = 0;
            brackets = 0;
            operandDue = true;
            intuitionistic = asIntuitionistic;
            fail(0, NONE);
        }

        private void finish() {
            if (tape.size() > TEXT_BYTES) {
                fail(CANT_STAND, TEXT_BYTES);
            } else if (operandDue || brackets > 0) {
                fail(CANT_STAND, tape.size());
            } else {
                joinDownTo(1);
            }
        }

        /** The byte at p, a blank as ' ', of [] and of <> the first one; 0 for half of those. */
        private int signAt(int p) {
            int b = tape.at(p);
            // a byte behind the 400th is none of the TEXT, so it is no half of a sign of it
            int next = p + 1 < TEXT_BYTES ? tape.at(p + 1) : NONE;
            if (b == 10) {
                return ' ';
            }
            if (b == '[') {
                return next == ']' ? b : 0;
            }
            if (b == '<') {
                return next == '>' ? b : 0;
            }
            return b;
        }

        private void accept(int sign, int p) {
            if (!canStand(sign)) {
                fail(CANT_STAND, p);
            } else if (isOpening(sign)) {
                acceptOpening(sign, p);
            } else if (isAtom(sign)) {
                pushMark(markOfAtom(sign));
                endOperand();
            } else if (sign == ')') {
                joinDownTo(1);
                closeBracket();
                endOperand();
            } else {
                joinDownTo(sign == '>' ? rankOf(sign) + 1 : rankOf(sign));
                pushSign(sign);
                operandDue = true;
            }
        }

        private boolean canStand(int sign) {
            if (operandDue) {
                return isAtom(sign) || isOpening(sign);
            }
            return rankOf(sign) > 0 || sign == ')' && brackets > 0;
        }

        private void acceptOpening(int sign, int p) {
            if (open >= MOST_OPEN_SIGNS) {
                fail(TOO_DEEP, p);
            } else if (intuitionistic && (sign == '[' || sign == '<')) {
                fail(NOT_INTUITIONISTIC, p);
            } else {
                pushSign(sign);
                open++;
                brackets += sign == '(' ? 1 : 0;
            }
        }

        private int markOfAtom(int sign) {
            if (sign == 'T' || sign == 'F') {
                return sign == 'T' ? Draft.YES_OF_T : Draft.deny(Draft.YES_OF_T);
            }
            int letter = draft.letter(sign - 'a');
            return intuitionistic ? draft.need(letter) : letter;
        }

        private void closeBracket() {
            signCount = Math.max(signCount - 1, 0);
            open--;
            brackets--;
        }

        /** What stands ahead of an operand binds strongest, so it ends with that. */
        private void endOperand() {
            operandDue = false;
            for (int n = signCount; n > 0 && isPrefix(topSign()); n--) {
                int sign = topSign();
                signCount--;
                open--;
                pushMark(prefixed(sign, popMark()));
            }
        }

        private int prefixed(int sign, int x) {
            if (sign == '[') {
                return draft.need(x);
            }
            if (sign == '<') {
                return draft.may(x);
            }
            return intuitionistic ? draft.need(Draft.deny(x)) : Draft.deny(x);
        }

        /** Joins operands as long as the latest sign of two binds at least as strongly as this. */
        private void joinDownTo(int rank) {
            for (int n = signCount; n > 0 && rankOf(topSign()) >= rank; n--) {
                int sign = topSign();
                signCount--;
                int y = popMark();
                int x = popMark();
                pushMark(joined(sign, x, y));
            }
        }

        private int joined(int sign, int x, int y) {
            if (sign == '&') {
                return draft.both(x, y);
            }
            if (sign == '|') {
                return draft.either(x, y);
            }
            int there = draft.either(Draft.deny(x), y);
            if (sign == '>') {
                return intuitionistic ? draft.need(there) : there;
            }
            if (intuitionistic) {
                int back = draft.either(Draft.deny(y), x);
                return draft.both(draft.need(there), draft.need(back));
            }
            return draft.both(there, draft.either(x, Draft.deny(y)));
        }

        private int topSign() {
            return signCount > 0 ? signs[signCount - 1] : 0;
        }

        private void pushSign(int sign) {
            if (signCount < signs.length) {
                signs[signCount] = sign;
                signCount++;
            }
        }

        private void pushMark(int mark) {
            if (markCount < marks.length) {
                marks[markCount] = mark;
                markCount++;
            }
        }

        private int popMark() {
            if (markCount <= 0) {
                return Draft.YES_OF_T;
            }
            markCount--;
            return marks[markCount];
        }

        private static boolean isAtom(int sign) {
            return sign >= 'a' && sign <= 'z' || sign == 'T' || sign == 'F';
        }

        private static boolean isPrefix(int sign) {
            return sign == '!' || sign == '[' || sign == '<';
        }

        private static boolean isOpening(int sign) {
            return sign == '(' || isPrefix(sign);
        }

        /** How strongly a sign of two binds; 0 for all others. */
        private static int rankOf(int sign) {
            switch (sign) {
                case '&':
                    return 4;
                case '|':
                    return 3;
                case '>':
                    return 2;
                case '=':
                    return 1;
                default:
                    return 0;
            }
        }
    }

    /** Writes the TEXT of a FORMULA, as far as it may be told. */
    private static final class Writer {
        private final ByteRow told;
        private final Stock stock;
        /** What is being written, from the outside in, each as 4 * its number + how far it is. */
        private final int[] way = new int[MOST_FORMULAS];
        private int depth;

        Writer(ByteRow told, Stock stock) {
            this.told = told;
            this.stock = stock;
        }

        void write(int f) {
            told.keep(0);
            depth = 0;
            enter(f);
            for (int turn = 0; turn < TURNS && depth > 0 && told.size() < TEXT_BYTES; turn++) {
                int f4 = way[depth - 1];
                way[depth - 1] = f4 + 1;
                goOn(f4 >> 2, f4 & 3);
            }
        }

        private void enter(int f) {
            if (depth < way.length) {
                way[depth] = 4 * f;
                depth++;
            }
        }

        private void goOn(int f, int done) {
            int sort = stock.sortOf(f);
            if (sort < BOTH) {
                writeAtom(sort, stock.firstOf(f));
                depth--;
            } else if (sort == NEED || sort == MAY) {
                goOnWithOne(f, sort, done);
            } else {
                goOnWithTwo(f, sort, done);
            }
        }

        private void writeAtom(int sort, int letter) {
            if (sort == TRUE) {
                emit('T');
            } else if (sort == FALSE) {
                emit('F');
            } else {
                if (sort == OPPOSITE) {
                    emit('!');
                }
                emit('a' + letter);
            }
        }

        private void goOnWithOne(int f, int sort, int done) {
            if (done == 0) {
                emit(sort == NEED ? '[' : '<');
                emit(sort == NEED ? ']' : '>');
                enter(stock.firstOf(f));
            } else {
                depth--;
            }
        }

        private void goOnWithTwo(int f, int sort, int done) {
            if (done == 0) {
                emit('(');
                enter(stock.firstOf(f));
            } else if (done == 1) {
                emit(sort == BOTH ? '&' : '|');
                enter(stock.secondOf(f));
            } else {
                emit(')');
                depth--;
            }
        }

        private void emit(int b) {
            if (told.size() < TEXT_BYTES) {
                told.push(b);
            }
        }
    }

    /**
     * The tableau, without recursion: the worlds that there are stand in rows in the order in which
     * they were begun, so that what is gone is always what stands behind the one gone back to.
     */
    private static final class Tableau {
        private final Stock stock;
        /** One row more than worlds: a START is looked for ahead of its world being too many. */
        private final Sets starts = new Sets(MOST_WORLDS + 1);
        private final Sets sets = new Sets(MOST_WORLDS);
        /** Of each SET the FORMULAS at which something may be left to do. */
        private final Sets left = new Sets(MOST_WORLDS);
        private final int[] parents = new int[MOST_WORLDS];
        private final int[] depths = new int[MOST_WORLDS];
        private final int[] eithersAhead = new int[MOST_WORLDS];
        private final int[] linesAhead = new int[MOST_WORLDS];
        private final long[] leads = new long[MOST_WORLDS];
        /** The EITHERS whose second SET is yet to come, each with the SET that had it. */
        private final int[] eithers = new int[MOST_EITHERS];
        private final Sets held;
        private final Lines lines = new Lines();
        private final int[] counts = new int[COUNTS];
        private int eitherCount;
        private int worldCount;
        private int world;
        private int clash;
        private int fuel;
        private int verdict;

        Tableau(Stock stock, Sets held) {
            this.stock = stock;
            this.held = held;
        }

        Lines lines() {
            return lines;
        }

        int countOf(int what) {
            return what >= 0 && what < COUNTS ? counts[what] : NONE;
        }

        int run(int no, int steps) {
            fuel = steps;
            verdict = GOING_ON;
            eitherCount = 0;
            worldCount = 0;
            lines.shorten(0);
            for (int what = 0; what < COUNTS; what++) {
                counts[what] = 0;
            }
            starts.empty(0);
            starts.put(0, no);
            beginWorld(NONE, 1);
            for (int turn = 0; turn < TURNS && verdict == GOING_ON; turn++) {
                goOn();
            }
            return verdict;
        }

        void fillModel(Model model) {
            model.clear();
            for (int w = 0; w < worldCount && w < MOST_WORLDS; w++) {
                model.addWorld(lettersOf(w), leads[w], sets.sizeOf(w));
            }
            model.closeSight();
        }

        private int lettersOf(int w) {
            int letters = 0;
            for (int f = 0; f < stock.size(); f++) {
                if (stock.sortOf(f) == LETTER && sets.has(w, f)) {
                    letters |= 1 << stock.firstOf(f);
                }
            }
            return letters;
        }

        private void goOn() {
            if (clash != NONE) {
                if (note(BY_CLASH, clash) && goBack()) {
                    trySecond();
                }
                return;
            }
            int both = leastToDo(BOTH);
            if (both != NONE) {
                widen(BY_BOTH, both);
                return;
            }
            int need = leastToDo(NEED);
            if (need != NONE) {
                widen(BY_SELF, need);
                return;
            }
            int either = leastToDo(EITHER);
            if (either != NONE) {
                tryFirst(either);
                return;
            }
            int may = leastToDo(MAY);
            if (may != NONE) {
                lookAtMay(may);
            } else {
                openWorld();
            }
        }

        private int leastToDo(int sort) {
            Sets bySort = stock.bySort();
            for (int k = 0; 64 * k < stock.size(); k++) {
                long bits = left.bits(world, k) & bySort.bits(sort, k);
                for (int n = Long.bitCount(bits); n > 0; n--) {
                    int f = 64 * k + Long.bitCount((bits & -bits) - 1L);
                    if (!isDone(sort, f)) {
                        return f;
                    }
                    // a SET only grows, so what is done stays so
                    left.drop(world, f);
                    bits &= bits - 1L;
                }
            }
            return NONE;
        }

        private boolean isDone(int sort, int f) {
            boolean first = sets.has(world, stock.firstOf(f));
            if (sort == BOTH) {
                return first && sets.has(world, stock.secondOf(f));
            }
            return first || sort == EITHER && sets.has(world, stock.secondOf(f));
        }

        /** The parts of a BOTH, or the one part of a NEED, come to the SET. */
        private void widen(int rule, int f) {
            if (step() && note(rule, f)) {
                add(stock.firstOf(f));
                add(stock.secondOf(f));
            }
        }

        private void tryFirst(int f) {
            if (!step()) {
                return;
            }
            if (eitherCount >= MOST_EITHERS) {
                verdict = GREAT;
            } else if (note(BY_EITHER, f)) {
                held.copy(eitherCount, sets, world);
                eithers[eitherCount] = f;
                eitherCount++;
                add(stock.firstOf(f));
            }
        }

        private void trySecond() {
            if (eitherCount <= 0 || !step()) {
                return;
            }
            eitherCount--;
            sets.copy(world, held, eitherCount);
            left.copy(world, held, eitherCount);
            leads[world] = 0L;
            clash = NONE;
            add(stock.secondOf(eithers[eitherCount]));
        }

        private void lookAtMay(int f) {
            if (!step()) {
                return;
            }
            left.drop(world, f);
            drawStart(stock.firstOf(f));
            int home = worldOfStart();
            if (home != NONE) {
                counts[2]++;
                leads[world] |= 1L << home;
                return;
            }
            linesAhead[world] = lines.size();
            if (worldCount >= MOST_WORLDS) {
                verdict = GREAT;
            } else if (note(BY_NEXT, f)) {
                beginWorld(world, depths[world] + 1);
            }
        }

        /** Puts the START of a MAY of this SET where a new world would have it. */
        private void drawStart(int part) {
            starts.copy(worldCount, sets, world);
            starts.meet(worldCount, stock.bySort(), NEED);
            starts.put(worldCount, part);
        }

        private int worldOfStart() {
            int w = world;
            for (int n = 0; n < MOST_WORLDS && w >= 0; n++) {
                if (starts.isSame(w, worldCount)) {
                    return w;
                }
                w = parents[w];
            }
            return NONE;
        }

        /** Begins the next world with the START that stands there already. */
        private void beginWorld(int parent, int depth) {
            world = worldCount;
            worldCount++;
            counts[1]++;
            counts[3] = Math.max(counts[3], depth);
            sets.copy(world, starts, world);
            left.copy(world, starts, world);
            parents[world] = parent;
            depths[world] = depth;
            eithersAhead[world] = eitherCount;
            leads[world] = 0L;
            // NEEDS and one part: no letter of it can have its opposite there
            clash = sets.has(world, FALSE) ? FALSE : NONE;
        }

        /**
         * The SET of this world is CLOSED, and so are those up the way that have no second one to
         * try: goes back to the first that has. False if there is none.
         */
        private boolean goBack() {
            for (int n = 0; n < MOST_WORLDS && eitherCount == eithersAhead[world]; n++) {
                if (parents[world] == NONE) {
                    verdict = CLOSED;
                    return false;
                }
                world = parents[world];
            }
            worldCount = world + 1;
            return true;
        }

        /** The SET of this world is OPEN: what could have been its proof is none. */
        private void openWorld() {
            eitherCount = eithersAhead[world];
            int parent = parents[world];
            if (parent == NONE) {
                verdict = OPEN;
                return;
            }
            lines.shorten(linesAhead[parent]);
            leads[parent] |= 1L << world;
            world = parent;
        }

        private void add(int f) {
            if (f == NONE) {
                return;
            }
            sets.put(world, f);
            left.put(world, f);
            int hit = clashWith(f);
            if (hit != NONE) {
                clash = clash == NONE ? hit : Math.min(clash, hit);
            }
        }

        /** F, or the letter that f is or denies, if both are in the SET now; NONE without a CLASH. */
        private int clashWith(int f) {
            int sort = stock.sortOf(f);
            if (sort == FALSE) {
                return f;
            }
            boolean lettered = sort == LETTER || sort == OPPOSITE;
            if (!lettered || !sets.has(world, stock.denialOf(f))) {
                return NONE;
            }
            return sort == LETTER ? f : stock.denialOf(f);
        }

        private boolean step() {
            if (counts[0] >= fuel) {
                verdict = SPENT;
                return false;
            }
            counts[0]++;
            return true;
        }

        private boolean note(int rule, int f) {
            if (!lines.push(rule, f)) {
                verdict = GREAT;
                return false;
            }
            return true;
        }
    }

    /** Goes over the lines on the tape by their rules alone. */
    private static final class Checker {
        /** If more EITHERS were parted at once, the tape had no room for what closes them. */
        static final int MOST_HELD = TAPE_BYTES / LINE_BYTES / 2;

        private final ByteRow tape;
        private final Stock stock;
        private final Sets current = new Sets(1);
        /** The second SETS that are yet to come. */
        private final Sets held;
        private int heldCount;

        Checker(ByteRow tape, Stock stock, Sets held) {
            this.tape = tape;
            this.stock = stock;
            this.held = held;
        }

        boolean isRight(int no) {
            if (tape.size() % LINE_BYTES != 0) {
                return false;
            }
            int lines = tape.size() / LINE_BYTES;
            current.empty(0);
            current.put(0, no);
            heldCount = 0;
            for (int i = 0; i < lines; i++) {
                int at = LINE_BYTES * i;
                int rule = tape.at(at);
                int f = 256 * tape.at(at + 1) + tape.at(at + 2);
                if (!current.has(0, f) || !isAllowed(rule, f)) {
                    return false;
                }
                if (rule != BY_CLASH) {
                    apply(rule, f);
                } else if (heldCount == 0) {
                    return i == lines - 1;
                } else {
                    heldCount--;
                    current.copy(0, held, heldCount);
                }
            }
            return false;
        }

        private boolean isAllowed(int rule, int f) {
            int sort = stock.sortOf(f);
            switch (rule) {
                case BY_CLASH:
                    return sort == FALSE || sort == LETTER && current.has(0, stock.denialOf(f));
                case BY_BOTH:
                    return sort == BOTH;
                case BY_SELF:
                    return sort == NEED;
                case BY_EITHER:
                    return sort == EITHER && heldCount < MOST_HELD;
                case BY_NEXT:
                    return sort == MAY;
                default:
                    return false;
            }
        }

        private void apply(int rule, int f) {
            if (rule == BY_EITHER) {
                held.copy(heldCount, current, 0);
                held.put(heldCount, stock.secondOf(f));
                heldCount++;
            }
            if (rule == BY_NEXT) {
                current.meet(0, stock.bySort(), NEED);
            }
            current.put(0, stock.firstOf(f));
            if (rule == BY_BOTH) {
                current.put(0, stock.secondOf(f));
            }
        }
    }

    /** The MODEL at hand: no worlds, no model. What is SEEN from a world is a bit for each. */
    private static final class Model {
        private final Stock stock;
        private final int[] letters = new int[MOST_WORLDS];
        private final long[] seen = new long[MOST_WORLDS];
        private final int[] oldLetters = new int[MOST_WORLDS];
        private final int[] setSizes = new int[MOST_WORLDS];
        /** Of a world the one that it becomes, NONE if it goes; of a new world one that becomes it. */
        private final int[] becomes = new int[MOST_WORLDS];
        private final int[] origins = new int[MOST_WORLDS];
        private final long[] signs = new long[MOST_WORLDS];
        /** Of each FORMULA up to the known ones the worlds at which it holds. */
        private final long[] truths = new long[MOST_FORMULAS];
        private int known;
        private int size;
        private boolean changed;

        Model(Stock stock) {
            this.stock = stock;
        }

        int size() {
            return size;
        }

        boolean has(int a) {
            return a >= 0 && a < size;
        }

        void clear() {
            size = 0;
            known = 0;
            changed = false;
        }

        void addWorld(int lettersThere, long leads, int setSize) {
            if (size < MOST_WORLDS) {
                letters[size] = lettersThere;
                seen[size] = leads | 1L << size;
                setSizes[size] = setSize;
                size++;
            }
        }

        /** Adds to what is SEEN from each world what is SEEN from there. */
        void closeSight() {
            for (int via = 0; via < size; via++) {
                for (int a = 0; a < size; a++) {
                    if (isSeen(a, via)) {
                        seen[a] |= seen[via];
                    }
                }
            }
        }

        boolean isSeen(int a, int b) {
            return has(a) && has(b) && (seen[a] >>> b & 1L) != 0L;
        }

        int seenFrom(int a) {
            return has(a) ? Long.bitCount(seen[a]) : NONE;
        }

        int setSizeOf(int a) {
            return has(a) && !changed ? setSizes[a] : NONE;
        }

        int clusterOf(int a) {
            int clusters = 0;
            for (int w = 0; w < a && !isMutual(w, a); w++) {
                clusters += isLeastOfCluster(w) ? 1 : 0;
            }
            return clusters;
        }

        int clusterSizeOf(int a) {
            int worlds = 0;
            for (int w = 0; w < size; w++) {
                worlds += isMutual(w, a) ? 1 : 0;
            }
            return worlds;
        }

        boolean isTrueAt(int a, int f) {
            for (int g = known; g <= f && g < MOST_FORMULAS; g++) {
                truths[g] = worldsOf(g);
                known = g + 1;
            }
            return has(a) && (truthOf(f) >>> a & 1L) != 0L;
        }

        void foldUp() {
            for (int w = 0; w < size; w++) {
                becomes[w] = 0;
                signs[w] = letters[w];
            }
            int classes = splitBySigns();
            for (int round = 0; round < MOST_WORLDS; round++) {
                for (int w = 0; w < size; w++) {
                    signs[w] = moved(seen[w]);
                }
                int finer = splitBySigns();
                if (finer == classes) {
                    break;
                }
                classes = finer;
            }
            rebuild(classes);
        }

        void cutTo(int a) {
            int kept = 1;
            for (int w = 0; w < size; w++) {
                becomes[w] = NONE;
                if (w == a) {
                    becomes[w] = 0;
                } else if (isSeen(a, w)) {
                    becomes[w] = kept;
                    kept++;
                }
            }
            rebuild(kept);
        }

        private boolean isMutual(int a, int b) {
            return isSeen(a, b) && isSeen(b, a);
        }

        private boolean isLeastOfCluster(int a) {
            for (int w = 0; w < a; w++) {
                if (isMutual(w, a)) {
                    return false;
                }
            }
            return true;
        }

        private long truthOf(int f) {
            return f >= 0 && f < known ? truths[f] : 0L;
        }

        private long worldsOf(int f) {
            long first = truthOf(stock.firstOf(f));
            long all = (1L << size) - 1L;
            switch (stock.sortOf(f)) {
                case TRUE:
                    return all;
                case LETTER:
                    return worldsOfLetter(stock.firstOf(f));
                case OPPOSITE:
                    return all & ~worldsOfLetter(stock.firstOf(f));
                case BOTH:
                    return first & truthOf(stock.secondOf(f));
                case EITHER:
                    return first | truthOf(stock.secondOf(f));
                case NEED:
                    return all & ~worldsSeeing(all & ~first);
                case MAY:
                    return worldsSeeing(first);
                default:
                    return 0L;
            }
        }

        private long worldsOfLetter(int letter) {
            long worlds = 0L;
            for (int w = 0; w < size; w++) {
                worlds |= (long) (letters[w] >>> letter & 1) << w;
            }
            return worlds;
        }

        /** The worlds from which one of these is SEEN. */
        private long worldsSeeing(long these) {
            long worlds = 0L;
            for (int w = 0; w < size; w++) {
                if ((seen[w] & these) != 0L) {
                    worlds |= 1L << w;
                }
            }
            return worlds;
        }

        /** Parts each class further by the signs of its worlds: how many classes there are. */
        private int splitBySigns() {
            int classes = 0;
            for (int w = 0; w < size; w++) {
                int like = leastLike(w);
                if (like == w) {
                    origins[w] = classes;
                    classes++;
                } else {
                    origins[w] = origins[like];
                }
            }
            for (int w = 0; w < size; w++) {
                becomes[w] = origins[w];
            }
            return classes;
        }

        private int leastLike(int w) {
            for (int v = 0; v < w; v++) {
                if (becomes[v] == becomes[w] && signs[v] == signs[w]) {
                    return v;
                }
            }
            return w;
        }

        /** What these worlds become, a bit for each. */
        private long moved(long these) {
            long worlds = 0L;
            for (int w = 0; w < size; w++) {
                if ((these >>> w & 1L) != 0L && becomes[w] != NONE) {
                    worlds |= 1L << becomes[w];
                }
            }
            return worlds;
        }

        private void rebuild(int newSize) {
            for (int w = size - 1; w >= 0; w--) {
                signs[w] = moved(seen[w]);
                oldLetters[w] = letters[w];
                if (becomes[w] >= 0 && becomes[w] < MOST_WORLDS) {
                    origins[becomes[w]] = w;
                }
            }
            for (int n = 0; n < newSize && n < size; n++) {
                int origin = origins[n];
                if (origin >= 0 && origin < size) {
                    letters[n] = oldLetters[origin];
                    seen[n] = signs[origin];
                }
            }
            size = Math.min(newSize, size);
            known = 0;
            changed = true;
        }
    }
}
