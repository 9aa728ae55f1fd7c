import java.util.Arrays;
import java.util.NoSuchElementException;

/**
 * Automata that read words without an end, and their complements.
 * What each call answers stands in the document, promise by promise.
 */
public final class OddRanks {
    public static final int NONE = -1;

    /** The answer that is no refusal and says that there is nothing to tell. */
    private static final int NOTHING = -2;

    private static final int MOST_AUTOMATA = 3;
    private static final int MOST_STATES = 4;
    private static final int MOST_LETTERS = 3;
    private static final int MOST_NODES = 300;
    private static final int MOST_THREES = 1000;
    private static final int MOST_PART = 10;
    private static final int MOST_RANK = 7;
    private static final int MOST_ROUNDS = 20;
    private static final int MOST_COUNTED = 3;

    private static final int NONE_SUCH = 1;
    private static final int NUMBER = 2;
    private static final int NO_ROOM = 3;
    private static final int FAULTY = 4;
    private static final int NOT_SO = 5;

    private final Tape tape = new Tape();
    private final Reader reader = new Reader(tape);
    private final Rankings finder = new Rankings();
    private final Automaton[] machines = new Automaton[MOST_AUTOMATA];
    private final Complement[] complements = new Complement[MOST_AUTOMATA];
    private final Loops loops = new Loops();
    private final Rounds lassoRounds;
    private final Threes threes;
    private final Shower shower = new Shower(loops);
    private int count;
    private int trouble;
    private int threesMet;

    public OddRanks() {
        Row index = new Row(0);
        for (int a = 0; a < MOST_AUTOMATA; a++) {
            machines[a] = new Automaton();
            complements[a] = new Complement(machines[a], finder, index);
        }
        lassoRounds = new Rounds(loops, machines[0]);
        threes = new Threes(machines[0], complements[0]);
    }

    // ---- automata

    public int feed(int a, int b, int c, int d, int e) {
        if (!tape.hasRoom()) {
            return NONE;
        }
        tape.append(a);
        tape.append(b);
        tape.append(c);
        tape.append(d);
        tape.append(e);
        return tape.size;
    }

    public int automata(int n) {
        if (!tape.holds(n)) {
            return refuse(NUMBER);
        }
        tape.open(n);
        if (!reader.readAutomata()) {
            return refuse(FAULTY);
        }
        count = reader.count;
        for (int a = 0; a < count && a < MOST_AUTOMATA; a++) {
            machines[a].takeOver(reader.drafts[a]);
            complements[a].forget();
        }
        return answer(count);
    }

    public int fault() {
        return tape.fault;
    }

    public int where() {
        return trouble == FAULTY ? tape.where : NONE;
    }

    public int automaton(int a, int what) {
        Automaton machine = machineAt(a);
        if (machine == null || what < 0 || what > 4) {
            return refuse(NONE_SUCH);
        }
        switch (what) {
            case 0:
                return answer(machine.states);
            case 1:
                return answer(machine.begins);
            case 2:
                return answer(machine.finals);
            case 3:
                return answer(machine.arrowCount());
            default:
                return answer(machine.signs);
        }
    }

    public int edge(int a, int from, int letter, int to) {
        Automaton machine = machineAt(a);
        if (machine == null || !machine.hasArrow(from, letter, to)) {
            return refuse(NONE_SUCH);
        }
        return answer(machine.joins(from, letter, to) ? 1 : 0);
    }

    public int after(int a, int set, int letter) {
        Automaton machine = machineAt(a);
        if (machine == null || !machine.hasSign(letter)) {
            return refuse(NONE_SUCH);
        }
        if (!machine.hasSet(set)) {
            return refuse(NUMBER);
        }
        return answer(machine.reach(set, letter));
    }

    // ---- rankings

    public int bound(int a, int set) {
        Automaton machine = machineAt(a);
        if (machine == null) {
            return refuse(NONE_SUCH);
        }
        if (!machine.hasSet(set)) {
            return refuse(NUMBER);
        }
        int greatest = Rankings.greatestTight(set, machine.finals);
        return answer(greatest > 0 ? greatest : NOTHING);
    }

    public int rankings(int a, int set, int rank) {
        Automaton machine = machineAt(a);
        if (machine == null) {
            return refuse(NONE_SUCH);
        }
        if (!machine.hasSet(set) || !isGreatest(rank)) {
            return refuse(NUMBER);
        }
        finder.findUnder(set, machine.finals, rank, Rankings.level(rank));
        return answer(finder.count);
    }

    public int ranked(int a, int set, int rank, int i, int state) {
        Automaton machine = machineAt(a);
        if (machine == null || !machine.hasState(state)) {
            return refuse(NONE_SUCH);
        }
        if (!machine.hasSet(set) || !isGreatest(rank)) {
            return refuse(NUMBER);
        }
        finder.findUnder(set, machine.finals, rank, Rankings.level(rank));
        if (i < 0 || i >= finder.count || !isIn(state, set)) {
            return refuse(NOT_SO);
        }
        return answer(Rankings.rankOf(finder.foundAt(i), state));
    }

    // ---- the complement

    public int complement(int a) {
        Complement other = complementAt(a);
        if (other == null) {
            return refuse(NONE_SUCH);
        }
        return other.stands() ? answer(other.count) : refuse(NO_ROOM);
    }

    public int node(int a, int node, int what) {
        Complement other = complementAt(a);
        if (other == null || node < 0 || what < 0 || what > 5) {
            return refuse(NONE_SUCH);
        }
        if (!other.stands()) {
            return refuse(NO_ROOM);
        }
        if (node >= other.count) {
            return refuse(NONE_SUCH);
        }
        return answer(other.told(node, what));
    }

    public int rank(int a, int node, int state) {
        Complement other = complementAt(a);
        if (other == null || node < 0 || !other.machine.hasState(state)) {
            return refuse(NONE_SUCH);
        }
        if (!other.stands()) {
            return refuse(NO_ROOM);
        }
        if (node >= other.count) {
            return refuse(NONE_SUCH);
        }
        return answer(other.rankIn(node, state));
    }

    public int next(int a, int node, int letter, int i) {
        Complement other = complementAt(a);
        if (other == null || node < 0 || i < 0 || !other.machine.hasSign(letter)) {
            return refuse(NONE_SUCH);
        }
        if (!other.stands()) {
            return refuse(NO_ROOM);
        }
        if (node >= other.count) {
            return refuse(NONE_SUCH);
        }
        return answer(i < other.fan(node, letter) ? other.goal(node, letter, i) : NOTHING);
    }

    public int nodes(int a, int what) {
        Complement other = complementAt(a);
        if (other == null || what < 0 || what > 2) {
            return refuse(NONE_SUCH);
        }
        return other.stands() ? answer(other.howMany(what)) : refuse(NO_ROOM);
    }

    // ---- lassos

    public int takes(int a, int n) {
        Automaton machine = machineAt(a);
        int refusal = refusalOfLasso(machine, n);
        if (machine == null || refusal != 0) {
            return refuse(refusal);
        }
        return answer(lassoRounds.isTaken(machine, reader.stem, reader.round) ? 1 : 0);
    }

    public int lacks(int a, int n) {
        Complement other = complementAt(a);
        int refusal = refusalOfLasso(machineAt(a), n);
        if (other == null || refusal != 0) {
            return refuse(refusal);
        }
        if (!other.stands()) {
            return refuse(NO_ROOM);
        }
        return answer(lassoRounds.isTaken(other, reader.stem, reader.round) ? 1 : 0);
    }

    public int follows(int a, int rounds, int n) {
        Automaton machine = machineAt(a);
        if (machine != null && (rounds < 0 || rounds > MOST_ROUNDS)) {
            return refuse(NUMBER);
        }
        int refusal = refusalOfLasso(machine, n);
        if (machine == null || refusal != 0) {
            return refuse(refusal);
        }
        int set = machine.reachAlong(machine.begins, reader.stem);
        for (int round = 0; round < rounds; round++) {
            set = machine.reachAlong(set, reader.round);
        }
        return answer(set);
    }

    public int counts(int a, int stem, int round) {
        Automaton machine = machineAt(a);
        if (machine == null) {
            return refuse(NONE_SUCH);
        }
        if (!areCounted(stem, round)) {
            return refuse(NUMBER);
        }
        return answer(lassoRounds.tally(machine, stem, round));
    }

    public int others(int a, int stem, int round) {
        Complement other = complementAt(a);
        if (other == null) {
            return refuse(NONE_SUCH);
        }
        if (!areCounted(stem, round)) {
            return refuse(NUMBER);
        }
        return other.stands() ? answer(lassoRounds.tally(other, stem, round)) : refuse(NO_ROOM);
    }

    // ---- empty, all, within

    public int empty(int a) {
        Automaton machine = machineAt(a);
        if (machine == null) {
            return refuse(NONE_SUCH);
        }
        return answer(shower.show(machine) ? 0 : 1);
    }

    public int all(int a) {
        Complement other = complementAt(a);
        if (other == null) {
            return refuse(NONE_SUCH);
        }
        if (!other.stands()) {
            return refuse(NO_ROOM);
        }
        return answer(shower.show(other) ? 0 : 1);
    }

    public int within(int a, int b) {
        Automaton machine = machineAt(a);
        Complement other = complementAt(b);
        if (machine == null || other == null) {
            return refuse(NONE_SUCH);
        }
        if (!other.stands() || !threes.meetAll(machine, other)) {
            return refuse(NO_ROOM);
        }
        threesMet = threes.count;
        return answer(shower.show(threes) ? 0 : 1);
    }

    public int met() {
        return threesMet;
    }

    public int shown(int what) {
        if (what < 0 || what > 1) {
            return refuse(NONE_SUCH);
        }
        if (!shower.has) {
            return answer(NOTHING);
        }
        return answer(what == 0 ? shower.stemLength : shower.roundLength);
    }

    public int letter(int i) throws NoSuchElementException {
        if (!shower.has || i < 0 || i >= shower.stemLength + shower.roundLength) {
            throw new NoSuchElementException();
        }
        return shower.letters.get(i);
    }

    // ---- acts

    public int link(int a, int from, int letter, int to, boolean is) {
        Automaton machine = machineAt(a);
        if (machine == null || !machine.hasArrow(from, letter, to)) {
            return refuse(NONE_SUCH);
        }
        if (machine.joins(from, letter, to) == is) {
            return refuse(NOT_SO);
        }
        machine.setArrow(from, letter, to, is);
        changed(a);
        return answer(machine.arrowCount());
    }

    public int mark(int a, int state, boolean is) {
        Automaton machine = machineAt(a);
        if (machine == null || !machine.hasState(state)) {
            return refuse(NONE_SUCH);
        }
        if (isIn(state, machine.finals) == is) {
            return refuse(NOT_SO);
        }
        machine.finals ^= 1 << state;
        changed(a);
        return answer(machine.finals);
    }

    public int begin(int a, int state, boolean is) {
        Automaton machine = machineAt(a);
        if (machine == null || !machine.hasState(state)) {
            return refuse(NONE_SUCH);
        }
        if (isIn(state, machine.begins) == is) {
            return refuse(NOT_SO);
        }
        machine.begins ^= 1 << state;
        changed(a);
        return answer(machine.begins);
    }

    // ---- what is told

    public int size() {
        return tape.size;
    }

    public int trouble() {
        return trouble;
    }

    private int refuse(int why) {
        trouble = why;
        return NONE;
    }

    private int answer(int x) {
        trouble = 0;
        return x;
    }

    private Automaton machineAt(int a) {
        return a >= 0 && a < count && a < MOST_AUTOMATA ? machines[a] : null;
    }

    private Complement complementAt(int a) {
        return a >= 0 && a < count && a < MOST_AUTOMATA ? complements[a] : null;
    }

    private void changed(int a) {
        Complement other = complementAt(a);
        if (other != null) {
            other.forget();
        }
    }

    /** Reads the lasso on the tape; the number of the refusal, 0 if it stands. */
    private int refusalOfLasso(Automaton machine, int n) {
        if (machine == null) {
            return NONE_SUCH;
        }
        if (!tape.holds(n)) {
            return NUMBER;
        }
        tape.open(n);
        return reader.readLasso(machine.signs) ? 0 : FAULTY;
    }

    private static boolean isIn(int state, int set) {
        return (set >> state & 1) != 0;
    }

    private static boolean isGreatest(int rank) {
        return rank >= 1 && rank <= MOST_RANK && (rank & 1) == 1;
    }

    private static boolean areCounted(int stem, int round) {
        return stem >= 0 && stem <= MOST_COUNTED && round >= 1 && round <= MOST_COUNTED;
    }

    /** A row of numbers: every index is looked at here, so that none can be off elsewhere. */
    private static final class Row {
        private static final int MOST_CELLS = MOST_NODES * MOST_NODES * MOST_LETTERS;

        private int[] cells;
        int used;

        Row(int length) {
            cells = new int[Math.min(Math.max(length, 0), MOST_CELLS)];
        }

        int get(int i) {
            return i >= 0 && i < cells.length ? cells[i] : 0;
        }

        void put(int i, int x) {
            if (i >= 0 && i < cells.length) {
                cells[i] = x;
            }
        }

        void push(int x) {
            stretch(used + 1);
            if (used < cells.length) {
                cells[used] = x;
                used++;
            }
        }

        /** Doubles at least: what a run throws away stays less than what it keeps. */
        void stretch(int length) {
            if (length > cells.length && length <= MOST_CELLS) {
                cells = Arrays.copyOf(cells, Math.min(Math.max(length, 2 * cells.length), MOST_CELLS));
            }
        }

        /** At least so many cells, and these are 0. */
        void wipe(int length) {
            stretch(length);
            for (int i = 0; i < length && i < cells.length; i++) {
                cells[i] = 0;
            }
            used = 0;
        }
    }

    /** The tape, and the tokens of the text that is read from it. */
    private static final class Tape {
        static final int ROOM = 400;
        static final int FED = 20;

        /** Kinds of tokens; the single signs are their own kinds. */
        static final int END = 0;
        static final int BAD = 1;
        static final int WORD = 2;
        static final int WHOLE = 3;

        static final int FORM = 1;
        static final int BOUNDS = 2;
        static final int AGAIN = 3;
        static final int MANY = 4;
        static final int LACKING = 5;

        private static final int BLANK = 32;
        private static final int LONGEST_WORD = 7;

        private final Row bytes = new Row(ROOM);
        private int end;
        private int at;
        int size;
        int kind;
        int place;
        int length;
        int fault;
        int where = NONE;

        boolean hasRoom() {
            return size + FED <= ROOM;
        }

        void append(int number) {
            for (int shift = 24; shift >= 0; shift -= 8) {
                bytes.put(size, number >> shift & 255);
                size++;
            }
        }

        boolean holds(int n) {
            return n >= 0 && n <= size;
        }

        /** The tape is empty from here on; its bytes stay till they are fed over. */
        void open(int n) {
            end = n;
            at = 0;
            size = 0;
            fault = 0;
            where = NONE;
        }

        /** Always false, so that a reader can end by it. */
        boolean blame(int what, int spot) {
            fault = what;
            where = spot;
            return false;
        }

        int byteAt(int spot) {
            return spot >= 0 && spot < end ? bytes.get(spot) : 0;
        }

        void step() {
            int spot = at;
            while (spot < end && bytes.get(spot) == BLANK) {
                spot++;
            }
            place = spot;
            int sign = byteAt(spot);
            if (spot >= end) {
                length = 0;
                kind = END;
            } else if (isSmall(sign)) {
                length = runOfSmall(spot);
                kind = length <= LONGEST_WORD ? WORD : BAD;
            } else if (isDigit(sign)) {
                length = 1;
                kind = isDigit(byteAt(spot + 1)) ? BAD : WHOLE;
            } else {
                length = 1;
                kind = sign == ';' || sign == '(' || sign == ')' ? sign : BAD;
            }
            at = spot + length;
        }

        boolean spells(String word) {
            if (kind != WORD || length != word.length()) {
                return false;
            }
            for (int i = 0; i < length; i++) {
                if (bytes.get(place + i) != word.charAt(i)) {
                    return false;
                }
            }
            return true;
        }

        /** The next token as a whole between bounds; NONE, and what is wrong is blamed. */
        int whole(int least, int most) {
            step();
            if (kind != WHOLE) {
                blame(FORM, place);
                return NONE;
            }
            int value = byteAt(place) - '0';
            if (value < least || value > most) {
                blame(BOUNDS, place);
                return NONE;
            }
            return value;
        }

        private int runOfSmall(int from) {
            int spot = from;
            while (spot < end && isSmall(bytes.get(spot))) {
                spot++;
            }
            return spot - from;
        }

        private static boolean isSmall(int sign) {
            return sign >= 'a' && sign <= 'z';
        }

        private static boolean isDigit(int sign) {
            return sign >= '0' && sign <= '9';
        }
    }

    /** Reads texts: automata into drafts, so that a fault leaves the old ones alone; lassos into a stem and a round. */
    private static final class Reader {
        private final Tape tape;
        private final Row namePlaces = new Row(MOST_AUTOMATA);
        private final Row nameLengths = new Row(MOST_AUTOMATA);
        final Automaton[] drafts = new Automaton[MOST_AUTOMATA];
        final Row stem = new Row(MOST_PART);
        final Row round = new Row(MOST_PART);
        int count;
        private int signs;

        Reader(Tape tape) {
            this.tape = tape;
            for (int a = 0; a < MOST_AUTOMATA; a++) {
                drafts[a] = new Automaton();
            }
        }

        boolean readAutomata() {
            count = 0;
            signs = 0;
            for (int line = 0; line < Tape.ROOM; line++) {
                if (!readLine()) {
                    return false;
                }
                tape.step();
                if (tape.kind == Tape.END) {
                    return count > 0 || tape.blame(Tape.LACKING, tape.place);
                }
                if (tape.kind != ';') {
                    break;
                }
            }
            return tape.blame(Tape.FORM, tape.place);
        }

        private boolean readLine() {
            tape.step();
            int word = tape.place;
            if (tape.spells("letters")) {
                return readLetters(word);
            }
            if (tape.spells("auto")) {
                return readAuto(word);
            }
            if (tape.spells("start")) {
                return readState(word, true);
            }
            if (tape.spells("final")) {
                return readState(word, false);
            }
            if (tape.spells("edge")) {
                return readArrow(word);
            }
            return tape.blame(Tape.FORM, word);
        }

        private boolean readLetters(int word) {
            if (signs > 0) {
                return tape.blame(Tape.AGAIN, word);
            }
            int n = tape.whole(1, MOST_LETTERS);
            if (n == NONE) {
                return false;
            }
            signs = n;
            return true;
        }

        private boolean readAuto(int word) {
            if (signs == 0) {
                return tape.blame(Tape.LACKING, word);
            }
            if (count >= MOST_AUTOMATA) {
                return tape.blame(Tape.MANY, word);
            }
            if (!readName()) {
                return false;
            }
            tape.step();
            if (!tape.spells("states")) {
                return tape.blame(Tape.FORM, tape.place);
            }
            int states = tape.whole(1, MOST_STATES);
            if (states == NONE) {
                return false;
            }
            drafts[count].lay(states, signs);
            count++;
            return true;
        }

        private boolean readName() {
            tape.step();
            if (tape.kind != Tape.WORD || isKept()) {
                return tape.blame(Tape.FORM, tape.place);
            }
            for (int a = 0; a < count; a++) {
                if (isNameOf(a)) {
                    return tape.blame(Tape.AGAIN, tape.place);
                }
            }
            namePlaces.put(count, tape.place);
            nameLengths.put(count, tape.length);
            return true;
        }

        private boolean isKept() {
            return tape.spells("letters") || tape.spells("auto") || tape.spells("states")
                    || tape.spells("start") || tape.spells("final") || tape.spells("edge");
        }

        private boolean isNameOf(int a) {
            if (nameLengths.get(a) != tape.length) {
                return false;
            }
            for (int i = 0; i < tape.length; i++) {
                if (tape.byteAt(namePlaces.get(a) + i) != tape.byteAt(tape.place + i)) {
                    return false;
                }
            }
            return true;
        }

        private Automaton latest() {
            return count > 0 && count <= MOST_AUTOMATA ? drafts[count - 1] : null;
        }

        private boolean readState(int word, boolean isStart) {
            Automaton machine = latest();
            if (machine == null) {
                return tape.blame(Tape.LACKING, word);
            }
            int state = tape.whole(0, machine.states - 1);
            if (state == NONE) {
                return false;
            }
            if (isIn(state, isStart ? machine.begins : machine.finals)) {
                return tape.blame(Tape.AGAIN, word);
            }
            if (isStart) {
                machine.begins |= 1 << state;
            } else {
                machine.finals |= 1 << state;
            }
            return true;
        }

        private boolean readArrow(int word) {
            Automaton machine = latest();
            if (machine == null) {
                return tape.blame(Tape.LACKING, word);
            }
            int from = tape.whole(0, machine.states - 1);
            if (from == NONE) {
                return false;
            }
            tape.step();
            int sign = tape.byteAt(tape.place) - 'a';
            if (tape.kind != Tape.WORD || tape.length != 1 || sign >= signs) {
                return tape.blame(Tape.FORM, tape.place);
            }
            int to = tape.whole(0, machine.states - 1);
            if (to == NONE) {
                return false;
            }
            if (machine.joins(from, sign, to)) {
                return tape.blame(Tape.AGAIN, word);
            }
            machine.setArrow(from, sign, to, true);
            return true;
        }

        boolean readLasso(int signCount) {
            if (!readPart(stem, '(', signCount) || !readPart(round, ')', signCount)) {
                return false;
            }
            tape.step();
            return tape.kind == Tape.END || tape.blame(Tape.FORM, tape.place);
        }

        /** Letters up to the sign that ends them; a round has one at least. */
        private boolean readPart(Row part, int ending, int signCount) {
            part.wipe(MOST_PART);
            for (int token = 0; token <= Tape.ROOM; token++) {
                tape.step();
                if (tape.kind == ending && (part == stem || part.used > 0)) {
                    return true;
                }
                if (tape.kind != Tape.WORD) {
                    break;
                }
                if (!readWord(part, signCount)) {
                    return false;
                }
            }
            return tape.blame(Tape.FORM, tape.place);
        }

        private boolean readWord(Row part, int signCount) {
            for (int i = 0; i < tape.length; i++) {
                if (tape.byteAt(tape.place + i) - 'a' >= signCount) {
                    return tape.blame(Tape.FORM, tape.place);
                }
                if (part.used >= MOST_PART) {
                    return tape.blame(Tape.MANY, tape.place);
                }
                part.push(tape.byteAt(tape.place + i) - 'a');
            }
            return true;
        }
    }

    /** What goes on by letters: from each vertex by each letter to some, in their order. */
    private abstract static class Graph {
        abstract int vertices();

        abstract int letterCount();

        abstract boolean isFirst(int v);

        abstract boolean isMarked(int v);

        abstract int fan(int v, int sign);

        abstract int goal(int v, int sign, int i);
    }

    /** An automaton; its states are the vertices. */
    private static final class Automaton extends Graph {
        private final Row arrows = new Row(MOST_LETTERS * MOST_STATES);
        int states;
        int signs;
        int begins;
        int finals;

        void lay(int stateCount, int signCount) {
            states = stateCount;
            signs = signCount;
            begins = 0;
            finals = 0;
            arrows.wipe(MOST_LETTERS * MOST_STATES);
        }

        void takeOver(Automaton other) {
            states = other.states;
            signs = other.signs;
            begins = other.begins;
            finals = other.finals;
            for (int i = 0; i < MOST_LETTERS * MOST_STATES; i++) {
                arrows.put(i, other.arrows.get(i));
            }
        }

        boolean hasState(int state) {
            return state >= 0 && state < states;
        }

        boolean hasSign(int sign) {
            return sign >= 0 && sign < signs;
        }

        boolean hasSet(int set) {
            return set >= 0 && set < 1 << states;
        }

        boolean hasArrow(int from, int sign, int to) {
            return hasState(from) && hasSign(sign) && hasState(to);
        }

        boolean joins(int from, int sign, int to) {
            return isIn(to, arrowsOf(from, sign));
        }

        void setArrow(int from, int sign, int to, boolean is) {
            int old = arrowsOf(from, sign);
            arrows.put(sign * MOST_STATES + from, is ? old | 1 << to : old & ~(1 << to));
        }

        int arrowCount() {
            int n = 0;
            for (int i = 0; i < MOST_LETTERS * MOST_STATES; i++) {
                n += Integer.bitCount(arrows.get(i));
            }
            return n;
        }

        int arrowsOf(int from, int sign) {
            return arrows.get(sign * MOST_STATES + from);
        }

        int reach(int set, int sign) {
            int reached = 0;
            for (int from = 0; from < states; from++) {
                if (isIn(from, set)) {
                    reached |= arrowsOf(from, sign);
                }
            }
            return reached;
        }

        int reachAlong(int set, Row word) {
            int reached = set;
            for (int i = 0; i < word.used; i++) {
                reached = reach(reached, word.get(i));
            }
            return reached;
        }

        int vertices() {
            return states;
        }

        int letterCount() {
            return signs;
        }

        boolean isFirst(int v) {
            return isIn(v, begins);
        }

        boolean isMarked(int v) {
            return isIn(v, finals);
        }

        int fan(int v, int sign) {
            return Integer.bitCount(arrowsOf(v, sign));
        }

        int goal(int v, int sign, int i) {
            int set = arrows.get(sign * MOST_STATES + v);
            int passed = 0;
            for (int state = 0; state < states; state++) {
                if (isIn(state, set)) {
                    if (passed == i) {
                        return state;
                    }
                    passed++;
                }
            }
            return NONE;
        }
    }

    /** Finds the tight rankings of a set, in order. A ranking is one number, three bits a state. */
    private static final class Rankings {
        private static final int BITS = 3;
        private static final int ODD = 0xAA;

        /** Four states that aren't final have 110 with 3 as the greatest rank, and none has more. */
        private static final int MOST_FOUND = 128;

        private final Row found = new Row(MOST_FOUND);
        int count;
        private int set;
        private int finals;
        private int caps;

        static int rankOf(int ranking, int state) {
            return ranking >> BITS * state & MOST_RANK;
        }

        static int withRank(int ranking, int state, int rank) {
            return ranking | rank << BITS * state;
        }

        static int greatestOf(int ranking) {
            int greatest = 0;
            for (int state = 0; state < MOST_STATES; state++) {
                greatest = Math.max(greatest, rankOf(ranking, state));
            }
            return greatest;
        }

        /** Below 0 if a set has no tight ranking. */
        static int greatestTight(int set, int finals) {
            return 2 * Integer.bitCount(set & ~finals) - 1;
        }

        /** The ranking that gives the same rank to all states. */
        static int level(int rank) {
            int ranking = 0;
            for (int state = 0; state < MOST_STATES; state++) {
                ranking = withRank(ranking, state, rank);
            }
            return ranking;
        }

        /** Those with a greatest rank in which no state has a greater one than in the ranking above. */
        void findUnder(int ofSet, int finalOnes, int greatest, int above) {
            count = 0;
            set = ofSet;
            finals = finalOnes;
            caps = above;
            rankFrom(0, 0, ODD & (1 << greatest + 1) - 1);
        }

        int foundAt(int i) {
            return found.get(i);
        }

        /** The missing odd ranks are bits: where they are more than states are left, none is found. */
        private void rankFrom(int state, int ranking, int missing) {
            int left = set >> state << state;
            if (Integer.bitCount(missing) > Integer.bitCount(left & ~finals)) {
                return;
            }
            if (state >= MOST_STATES) {
                found.put(count, ranking);
                count++;
            } else if (!isIn(state, set)) {
                rankFrom(state + 1, ranking, missing);
            } else {
                int step = isIn(state, finals) ? 2 : 1;
                int cap = rankOf(caps, state);
                for (int rank = 0; rank <= cap; rank += step) {
                    rankFrom(state + 1, withRank(ranking, state, rank), missing & ~(1 << rank));
                }
            }
        }
    }

    /** The complement of an automaton: its nodes, each one number, and where they go. */
    private static final class Complement extends Graph {
        private static final int OWES = 4;
        private static final int RANKS = 8;
        private static final int PAIR = 1 << 20;
        private static final int STATES = 15;
        private static final int RANKING = 0xFFF;
        private static final int SLOTS = 1024;

        private static final int STALE = 0;
        private static final int STANDS = 1;
        private static final int FULL = 2;

        final Automaton machine;
        private final Rankings finder;
        private final Row index;
        private final Row keys = new Row(0);
        private final Row starts = new Row(0);
        private final Row goals = new Row(0);
        private int condition;
        int count;

        /** The index is used only while nodes are met: all complements share one. */
        Complement(Automaton machine, Rankings finder, Row index) {
            this.machine = machine;
            this.finder = finder;
            this.index = index;
        }

        void forget() {
            condition = STALE;
        }

        /** Met anew if the automaton has changed; false if there is no room for it. */
        boolean stands() {
            if (condition == STALE) {
                condition = STANDS;
                meetAll();
            }
            return condition == STANDS;
        }

        private void meetAll() {
            index.wipe(SLOTS);
            keys.stretch(MOST_NODES);
            starts.used = 0;
            goals.used = 0;
            count = 0;
            meet(machine.begins);
            for (int v = 0; v < count && v < MOST_NODES; v++) {
                for (int sign = 0; sign < machine.signs; sign++) {
                    starts.push(goals.used);
                    goFrom(keys.get(v), sign);
                    if (condition == FULL) {
                        return;
                    }
                }
            }
            starts.push(goals.used);
        }

        private void goFrom(int key, int sign) {
            int set = machine.reach(key & STATES, sign);
            if ((key & PAIR) == 0) {
                goals.push(meet(set));
                int most = Rankings.greatestTight(set, machine.finals);
                for (int greatest = 1; greatest <= most; greatest += 2) {
                    finder.findUnder(set, machine.finals, greatest, Rankings.level(greatest));
                    goToPairs(set, 0);
                }
            } else {
                int above = capsAfter(key, sign);
                int greatest = Rankings.greatestOf(key >> RANKS & RANKING);
                finder.findUnder(set, machine.finals, greatest, above);
                int owed = key >> OWES & STATES;
                goToPairs(set, owed == 0 ? set : machine.reach(owed, sign));
            }
        }

        /** To a pair of each ranking found; of those that may owe the ones with even ranks do. */
        private void goToPairs(int set, int mayOwe) {
            for (int i = 0; i < finder.count && condition != FULL; i++) {
                int ranking = finder.foundAt(i);
                int owing = mayOwe & evenOnes(set, ranking);
                goals.push(meet(PAIR | ranking << RANKS | owing << OWES | set));
            }
        }

        private static int evenOnes(int set, int ranking) {
            int even = 0;
            for (int state = 0; state < MOST_STATES; state++) {
                if (isIn(state, set) && (Rankings.rankOf(ranking, state) & 1) == 0) {
                    even |= 1 << state;
                }
            }
            return even;
        }

        /** The greatest ranks that what comes after a pair may have, as a ranking. */
        private int capsAfter(int key, int sign) {
            int above = 0;
            for (int to = 0; to < machine.states; to++) {
                int cap = MOST_RANK;
                for (int from = 0; from < machine.states; from++) {
                    if (isIn(from, key & STATES) && machine.joins(from, sign, to)) {
                        cap = Math.min(cap, Rankings.rankOf(key >> RANKS, from));
                    }
                }
                above = Rankings.withRank(above, to, cap);
            }
            return above;
        }

        /** The number of a node, which is new if it wasn't met before. */
        private int meet(int key) {
            int slot = slotOf(key);
            int held = index.get(slot) - 1;
            if (held >= 0) {
                return held;
            }
            if (count >= MOST_NODES) {
                condition = FULL;
                return NONE;
            }
            keys.put(count, key);
            count++;
            index.put(slot, count);
            return count - 1;
        }

        /** Where the index has a node, or has room for it: there are far more slots than nodes. */
        private int slotOf(int key) {
            int slot = (key ^ key >> 7 ^ key >> 13) & SLOTS - 1;
            for (int probe = 0; probe < SLOTS; probe++) {
                int held = index.get(slot) - 1;
                if (held < 0 || keys.get(held) == key) {
                    break;
                }
                slot = slot + 1 & SLOTS - 1;
            }
            return slot;
        }

        int told(int v, int what) {
            int key = keys.get(v);
            boolean isPair = (key & PAIR) != 0;
            switch (what) {
                case 0:
                    return key & STATES;
                case 1:
                    return isPair ? Rankings.greatestOf(key >> RANKS & RANKING) : NOTHING;
                case 2:
                    return key >> OWES & STATES;
                case 3:
                    return isMarked(v) ? 1 : 0;
                case 4:
                    return starts.get((v + 1) * machine.signs) - starts.get(v * machine.signs);
                default:
                    return countAbove(key, MOST_NODES);
            }
        }

        int rankIn(int v, int state) {
            int key = keys.get(v);
            boolean isRanked = (key & PAIR) != 0 && isIn(state, key & STATES);
            return isRanked ? Rankings.rankOf(key >> RANKS, state) : NOTHING;
        }

        int howMany(int what) {
            int n = 0;
            for (int v = 0; v < count; v++) {
                boolean isPair = (keys.get(v) & PAIR) != 0;
                if (what == 0 && !isPair || what == 1 && isMarked(v)
                        || what == 2 && isPair && countAbove(keys.get(v), 1) == 0) {
                    n++;
                }
            }
            return n;
        }

        /** How many pairs a node is below; at most so many are counted. */
        private int countAbove(int key, int most) {
            int n = 0;
            for (int v = 0; v < count && n < most; v++) {
                if (isBelow(key, keys.get(v))) {
                    n++;
                }
            }
            return n;
        }

        private static boolean isBelow(int key, int other) {
            int both = key & other;
            int owedThere = other >> OWES & STATES;
            int low = key >> RANKS & RANKING;
            int high = other >> RANKS & RANKING;
            if (key == other || (both & PAIR) == 0 || (key & STATES) != (other & STATES)
                    || (owedThere & both >> OWES) != owedThere) {
                return false;
            }
            for (int state = 0; state < MOST_STATES; state++) {
                if (Rankings.rankOf(low, state) > Rankings.rankOf(high, state)) {
                    return false;
                }
            }
            return Rankings.greatestOf(low) == Rankings.greatestOf(high);
        }

        int vertices() {
            return count;
        }

        int letterCount() {
            return machine.signs;
        }

        boolean isFirst(int v) {
            return v == 0;
        }

        boolean isMarked(int v) {
            int key = keys.get(v);
            return key == 0 || (key & PAIR) != 0 && (key >> OWES & STATES) == 0;
        }

        int fan(int v, int sign) {
            int i = v * machine.signs + sign;
            return starts.get(i + 1) - starts.get(i);
        }

        int goal(int v, int sign, int i) {
            return goals.get(starts.get(v * machine.signs + sign) + i);
        }
    }

    /** What a graph goes through while it reads a round again and again: vertices with places in the round. */
    private static final class Rounds extends Graph {
        /** Stems that can still be lengthened: those of two letters, of which there are three. */
        private static final int MOST_SHORTER = 9;

        private final Loops loops;
        private Row from = new Row(0);
        private Row fresh = new Row(0);
        private final Row marks = new Row(0);
        private final Row counted = new Row(0);
        private Graph machine;
        private Row round = counted;
        private int stride;

        Rounds(Loops loops, Graph machine) {
            this.loops = loops;
            this.machine = machine;
        }

        boolean isTaken(Graph reads, Row stem, Row goesRound) {
            setOut(reads, goesRound);
            for (int i = 0; i < stem.used; i++) {
                advance(stem.get(i), false);
                turn();
            }
            loops.run(this);
            return stemsTaken() != 0;
        }

        /** Of all words with so long stems and rounds how many are taken; all stems are gone along at once. */
        int tally(Graph reads, int stemLength, int roundLength) {
            setOut(reads, counted);
            int signs = reads.letterCount();
            for (int i = 0; i < stemLength; i++) {
                for (int sign = 0; sign < signs; sign++) {
                    advance(sign, true);
                }
                turn();
            }
            int words = 1;
            for (int i = 0; i < roundLength; i++) {
                words *= signs;
            }
            int n = 0;
            for (int word = 0; word < words; word++) {
                spell(word, roundLength, signs);
                loops.run(this);
                n += Integer.bitCount(stemsTaken());
            }
            return n;
        }

        private void setOut(Graph reads, Row goesRound) {
            machine = reads;
            round = goesRound;
            stride = reads.vertices();
            from.wipe(reads.vertices());
            fresh.wipe(reads.vertices());
            marks.wipe(reads.vertices());
            for (int v = 0; v < reads.vertices(); v++) {
                from.put(v, reads.isFirst(v) ? 1 : 0);
                marks.put(v, reads.isMarked(v) ? 1 : 0);
            }
        }

        /** By a letter, each vertex with the stems (bits) by which it was come to. */
        private void advance(int sign, boolean isNaming) {
            for (int v = 0; v < machine.vertices(); v++) {
                int stems = from.get(v);
                if (stems != 0) {
                    int longer = isNaming ? lengthened(stems, sign) : stems;
                    int fan = machine.fan(v, sign);
                    for (int i = 0; i < fan; i++) {
                        int to = machine.goal(v, sign, i);
                        fresh.put(to, fresh.get(to) | longer);
                    }
                }
            }
        }

        /** Stem k with one more letter is stem k * letters + letter: 26 at most. */
        private int lengthened(int stems, int sign) {
            int signs = machine.letterCount();
            int longer = 0;
            for (int stem = 0; stem < MOST_SHORTER; stem++) {
                if (isIn(stem, stems)) {
                    longer |= 1 << stem * signs + sign;
                }
            }
            return longer;
        }

        private void turn() {
            Row old = from;
            from = fresh;
            fresh = old;
            fresh.wipe(machine.vertices());
        }

        private void spell(int word, int length, int signs) {
            counted.wipe(MOST_PART);
            int rest = word;
            for (int i = 0; i < length && signs > 0; i++) {
                counted.push(rest % signs);
                rest /= signs;
            }
        }

        private int nodeOf(int v) {
            return stride > 0 ? v % stride : 0;
        }

        private int placeOf(int v) {
            return stride > 0 ? v / stride : 0;
        }

        /** The stems (bits) behind which the round can be gone through well. */
        private int stemsTaken() {
            int stems = 0;
            for (int v = 0; v < machine.vertices(); v++) {
                if (from.get(v) != 0 && loops.isGood(v)) {
                    stems |= from.get(v);
                }
            }
            return stems;
        }

        int vertices() {
            return stride * round.used;
        }

        /** By its place each vertex has one letter alone; which one that is, nobody asks. */
        int letterCount() {
            return 1;
        }

        boolean isFirst(int v) {
            return v < stride && from.get(v) != 0;
        }

        boolean isMarked(int v) {
            return marks.get(nodeOf(v)) != 0;
        }

        int fan(int v, int sign) {
            return machine.fan(nodeOf(v), round.get(placeOf(v)));
        }

        int goal(int v, int sign, int i) {
            int place = placeOf(v);
            int to = machine.goal(nodeOf(v), round.get(place), i);
            return place + 1 < round.used ? (place + 1) * stride + to : to;
        }
    }

    /** Threes of a state of one automaton, a node of another one's complement, a mark. */
    private static final class Threes extends Graph {
        private static final int CODES = MOST_STATES * MOST_NODES * 2;

        private final Row numbers = new Row(0);
        private final Row states = new Row(0);
        private final Row nodes = new Row(0);
        private final Row wanted = new Row(0);
        private final Row marksAfter = new Row(0);
        private Automaton one;
        private Complement other;
        private int firsts;
        int count;

        Threes(Automaton one, Complement other) {
            this.one = one;
            this.other = other;
        }

        /** Meets all that can be come to; false if there is no room for them. */
        boolean meetAll(Automaton reads, Complement refuses) {
            one = reads;
            other = refuses;
            numbers.wipe(CODES);
            states.used = 0;
            nodes.used = 0;
            wanted.used = 0;
            marksAfter.used = 0;
            count = 0;
            for (int state = 0; state < reads.states; state++) {
                if (reads.isFirst(state)) {
                    enter(codeOf(state, 0, 0));
                }
            }
            firsts = count;
            for (int v = 0; v < count && v < MOST_THREES; v++) {
                if (!meetFrom(v)) {
                    return false;
                }
            }
            return true;
        }

        private boolean meetFrom(int v) {
            for (int sign = 0; sign < one.signs; sign++) {
                int fan = fan(v, sign);
                for (int i = 0; i < fan; i++) {
                    int code = codeAfter(v, sign, i);
                    if (numbers.get(code) == 0 && !enter(code)) {
                        return false;
                    }
                }
            }
            return true;
        }

        private boolean enter(int code) {
            if (count >= MOST_THREES) {
                return false;
            }
            int state = code / (2 * MOST_NODES);
            int node = code / 2 % MOST_NODES;
            boolean isOne = (code & 1) == 1;
            boolean isFinalNode = other.isMarked(node);
            states.push(state);
            nodes.push(node);
            wanted.push(isOne && isFinalNode ? 1 : 0);
            marksAfter.push((isOne ? !isFinalNode : one.isMarked(state)) ? 1 : 0);
            count++;
            numbers.put(code, count);
            return true;
        }

        private static int codeOf(int state, int node, int mark) {
            return (state * MOST_NODES + node) * 2 + mark;
        }

        private int codeAfter(int v, int sign, int i) {
            int node = nodes.get(v);
            int fan = other.fan(node, sign);
            if (fan <= 0) {
                return NONE;
            }
            int state = one.goal(states.get(v), sign, i / fan);
            return codeOf(state, other.goal(node, sign, i % fan), marksAfter.get(v));
        }

        int vertices() {
            return count;
        }

        int letterCount() {
            return one.signs;
        }

        boolean isFirst(int v) {
            return v < firsts;
        }

        boolean isMarked(int v) {
            return wanted.get(v) != 0;
        }

        int fan(int v, int sign) {
            return one.fan(states.get(v), sign) * other.fan(nodes.get(v), sign);
        }

        int goal(int v, int sign, int i) {
            return numbers.get(codeAfter(v, sign, i)) - 1;
        }
    }

    /**
     * Tells of a graph which vertices lie on loops, and which are good: can come to a marked one on a loop.
     * It goes deep first, without recursion, and parts the vertices into what can be come to from each other.
     */
    private static final class Loops {
        private static final int LETTER = 16;
        private static final int FAN = (1 << LETTER) - 1;

        private static final int HELD = 1;
        private static final int TO_ITSELF = 2;
        private static final int ON_LOOP = 4;
        private static final int GOOD = 8;

        private final Row order = new Row(0);
        private final Row low = new Row(0);
        private final Row flags = new Row(0);
        /** The letter and, in the low bits, how many have been gone to by it. */
        private final Row cursor = new Row(0);
        private final Row path = new Row(0);
        private final Row held = new Row(0);
        private int depth;
        private int heldCount;
        private int entered;

        boolean isOnLoop(int v) {
            return has(v, ON_LOOP);
        }

        boolean isGood(int v) {
            return has(v, GOOD);
        }

        /** From the first vertices on; what can't be come to from them is neither on a loop nor good. */
        void run(Graph graph) {
            int n = graph.vertices();
            order.wipe(n);
            low.stretch(n);
            flags.wipe(n);
            cursor.wipe(n);
            path.stretch(n);
            held.stretch(n);
            depth = 0;
            heldCount = 0;
            entered = 0;
            for (int root = 0; root < n; root++) {
                if (graph.isFirst(root) && order.get(root) == 0) {
                    enter(root);
                    for (int step = 0; step < 2 * n && depth > 0; step++) {
                        goOn(graph, path.get(depth - 1));
                    }
                }
            }
        }

        /** Deeper to the next vertex that is new, or back if there is none. */
        private void goOn(Graph graph, int v) {
            int i = cursor.get(v) & FAN;
            for (int sign = cursor.get(v) >> LETTER; sign < graph.letterCount(); sign++) {
                int fan = graph.fan(v, sign);
                for (; i < fan; i++) {
                    int to = graph.goal(v, sign, i);
                    if (order.get(to) == 0) {
                        cursor.put(v, (sign << LETTER) + i + 1);
                        enter(to);
                        return;
                    }
                    lookAt(v, to);
                }
                i = 0;
            }
            leave(graph, v);
        }

        private void enter(int v) {
            entered++;
            order.put(v, entered);
            low.put(v, entered);
            raise(v, HELD);
            path.put(depth, v);
            depth++;
            held.put(heldCount, v);
            heldCount++;
        }

        /** What a vertex that isn't new tells of the one that goes to it. */
        private void lookAt(int v, int to) {
            int told = flags.get(to);
            if (to == v) {
                raise(v, TO_ITSELF);
            } else if ((told & HELD) != 0) {
                low.put(v, Math.min(low.get(v), order.get(to)));
            } else if ((told & GOOD) != 0) {
                raise(v, GOOD);
            }
        }

        private void leave(Graph graph, int v) {
            depth--;
            if (low.get(v) == order.get(v)) {
                release(graph, v);
            }
            if (depth > 0) {
                int back = path.get(depth - 1);
                low.put(back, Math.min(low.get(back), low.get(v)));
                if (has(v, GOOD)) {
                    raise(back, GOOD);
                }
            }
        }

        /** What is held from v on can be come to from each other, and no more belongs to it. */
        private void release(Graph graph, int v) {
            int from = heldCount - 1;
            while (from > 0 && held.get(from) != v) {
                from--;
            }
            boolean isLoop = heldCount - from > 1 || has(v, TO_ITSELF);
            boolean isGood = false;
            for (int i = from; i < heldCount; i++) {
                int member = held.get(i);
                isGood = isGood || has(member, GOOD) || isLoop && graph.isMarked(member);
            }
            int told = (isLoop ? ON_LOOP : 0) | (isGood ? GOOD : 0);
            for (int i = from; i < heldCount; i++) {
                flags.put(held.get(i), told);
            }
            heldCount = from;
        }

        private boolean has(int v, int flag) {
            return (flags.get(v) & flag) != 0;
        }

        private void raise(int v, int flag) {
            flags.put(v, flags.get(v) | flag);
        }
    }

    /** Shows a word of a graph: the way to the first marked vertex on a loop, and the way round it. */
    private static final class Shower {
        private final Loops loops;
        private final Row queue = new Row(0);
        private final Row parents = new Row(0);
        private final Row signs = new Row(0);
        /** How far a vertex is from where the search began, and 1 more; 0 if it isn't met. */
        private final Row depths = new Row(0);
        final Row letters = new Row(0);
        boolean has;
        int stemLength;
        int roundLength;

        Shower(Loops loops) {
            this.loops = loops;
        }

        boolean show(Graph graph) {
            loops.run(graph);
            int home = search(graph, NONE);
            has = home != NONE;
            if (has) {
                stemLength = writeWay(home, 0);
                search(graph, home);
                roundLength = writeWay(home, stemLength);
            }
            return has;
        }

        /** Without a home, from the first vertices to one that is sought; else from home back to it. */
        private int search(Graph graph, int home) {
            int n = graph.vertices();
            queue.used = 0;
            parents.wipe(n);
            signs.wipe(n);
            depths.wipe(n);
            for (int v = 0; v < n; v++) {
                if (home == NONE ? graph.isFirst(v) : v == home) {
                    queue.push(v);
                    depths.put(v, 1);
                    if (home == NONE && isSought(graph, v)) {
                        return v;
                    }
                }
            }
            for (int head = 0; head < queue.used && head < n; head++) {
                int found = searchFrom(graph, queue.get(head), home);
                if (found != NONE) {
                    return found;
                }
            }
            return NONE;
        }

        private int searchFrom(Graph graph, int v, int home) {
            for (int sign = 0; sign < graph.letterCount(); sign++) {
                int fan = graph.fan(v, sign);
                for (int i = 0; i < fan; i++) {
                    int to = graph.goal(v, sign, i);
                    if (depths.get(to) == 0 || to == home) {
                        queue.push(to);
                        parents.put(to, v);
                        signs.put(to, sign);
                        depths.put(to, depths.get(v) + 1);
                        if (to == home || home == NONE && isSought(graph, to)) {
                            return to;
                        }
                    }
                }
            }
            return NONE;
        }

        private boolean isSought(Graph graph, int v) {
            return graph.isMarked(v) && loops.isOnLoop(v);
        }

        /** The letters of the way by which v was met, from a place on; how many. */
        private int writeWay(int v, int place) {
            int length = depths.get(v) - 1;
            letters.stretch(place + length);
            int u = v;
            for (int i = length - 1; i >= 0; i--) {
                letters.put(place + i, signs.get(u));
                u = parents.get(u);
            }
            return length;
        }
    }
}
