import java.util.NoSuchElementException;

/** Long runs of calls, the same each time, on OddRanks and on the model: every answer must be the same. */
public final class ModelTest {
  private static final int RUNS = 1500;
  /** What calls behind the 512th answer is free; one round of calls makes fewer than 50. */
  private static final int MOST_CALLS = 512 - 50;

  private static long seed;
  private static int wrong;
  private static int calls;

  private static int any(int n) {
    seed = seed * 6364136223846793005L + 1442695040888963407L;
    return (int) ((seed >>> 33) % n);
  }

  private static final int[] FAR = {Integer.MIN_VALUE, Integer.MAX_VALUE, Integer.MIN_VALUE + 1, -2, -32, 31, 32, 33, 64, 1 << 30, 301, 2401};

  /** Mostly 0 .. n - 1, now and then below or above, or far away. */
  private static int about(int n) {
    int k = any(28);
    return k < 2 ? -1 : k < 4 ? n : k == 4 ? FAR[any(FAR.length)] : n > 0 ? any(n) : 0;
  }

  private static String automataText() {
    int letters = 1 + any(3);
    StringBuilder s = new StringBuilder("letters ").append(letters);
    int autos = 1 + any(3);
    int dense = 1 + any(4);
    for (int a = 0; a < autos; a++) {
      int states = 1 + any(any(3) == 0 ? 4 : 3);
      s.append(";auto ").append((char) ('x' + a)).append(" states ").append(states);
      for (int q = 0; q < states; q++) {
        if (any(3) == 0 || q == 0 && any(8) > 0) s.append(";start ").append(q);
        if (any(3) == 0) s.append(";final ").append(q);
        for (int k = 0; k < letters; k++) {
          for (int to = 0; to < states; to++) {
            if (any(5) < dense) s.append(";edge ").append(q).append((char) ('a' + k)).append(to);
          }
        }
      }
    }
    String text = s.toString();
    if (text.length() <= 400) return text;
    return text.substring(0, text.lastIndexOf(';', 400));
  }

  private static String lassoText() {
    StringBuilder s = new StringBuilder();
    int stem = any(5) == 0 ? any(12) : any(4);
    int round = any(5) == 0 ? any(12) : 1 + any(4);
    for (int i = 0; i < stem; i++) s.append((char) ('a' + any(2))).append(any(4) == 0 ? " " : "");
    s.append('(');
    for (int i = 0; i < round; i++) s.append((char) ('a' + any(any(9) == 0 ? 4 : 2))).append(any(4) == 0 ? " " : "");
    return s.append(')').toString();
  }

  private static final String[] PIECES = {"letters", "auto", "states", "start", "final", "edge", "a", "b", "d", "x", "0", "1", "2",
      "3", "4", "5", "12", ";", ";", "(", ")", " ", "  ", "longword", "sevenup", "\t", "\u00e9", "A", "letters 2;", "auto q states 2;", ";auto w states 1", ";letters"};

  /** A text of which some places are changed, so that faults of all kinds come up. */
  private static String spoilt(String text) {
    StringBuilder s = new StringBuilder(text);
    int changes = 1 + any(2);
    for (int i = 0; i < changes && s.length() > 0; i++) {
      int at = any(s.length());
      int kind = any(4);
      if (kind == 0) s.insert(at, PIECES[any(PIECES.length)]);
      else if (kind == 1) s.delete(at, Math.min(s.length(), at + 1 + any(3)));
      else if (kind == 2) s.setLength(at);
      else {
        int from = s.lastIndexOf(";", at);
        int to = s.indexOf(";", from + 1);
        if (from >= 0 && to > from) s.append(s.substring(from, to));
        else s.insert(at, PIECES[any(PIECES.length)]);
      }
    }
    return s.length() > 380 ? s.substring(0, 380) : s.toString();
  }

  private static void due(int run, String call, int got, int want) {
    calls++;
    if (got != want && wrong++ < 40) System.out.println("run " + run + ": " + call + " answered " + got + ", due is " + want);
  }

  private static void feed(int run, OddRanks x, Model m, String text) {
    for (int i = 0; i < text.length(); i += 20) {
      int[] n = new int[5];
      for (int k = 0; k < 20; k++) n[k / 4] = n[k / 4] << 8 | (i + k < text.length() ? text.charAt(i + k) : ' ');
      due(run, "feed(" + text + ")", x.feed(n[0], n[1], n[2], n[3], n[4]), m.feed(n));
    }
  }

  private static int letter(OddRanks x, int i) {
    try {
      return x.letter(i);
    } catch (NoSuchElementException e) {
      return -99;
    }
  }

  private static int letter(Model m, int i) {
    try {
      return m.letter(i);
    } catch (NoSuchElementException e) {
      return -99;
    }
  }

  private static void texts(int run, OddRanks x, Model m, int kind) {
    int a = about(m.automaton(1, 0) > 0 ? 2 : 1);
    String text = kind < 2 ? automataText() : lassoText();
    if (kind == 1 || any(3) == 0) text = spoilt(text);
    feed(run, x, m, text);
    int n = any(12) == 0 ? any(420) - 10 : any(30) == 0 ? about(400) : any(6) == 0 ? Math.max(0, m.size()) : m.size() - (20 - text.length() % 20) % 20;
    String told = "(" + a + ", " + n + ") of " + text;
    switch (kind) {
      case 0: case 1: due(run, "automata" + told, x.automata(n), m.automata(n)); break;
      case 2: due(run, "takes" + told, x.takes(a, n), m.takes(a, n)); break;
      case 3: due(run, "lacks" + told, x.lacks(a, n), m.lacks(a, n)); break;
      default:
        int rounds = about(21);
        due(run, "follows, " + rounds + told, x.follows(a, rounds, n), m.follows(a, rounds, n));
    }
  }

  private static void oneCall(int run, OddRanks x, Model m) {
    int a = about(3);
    int b = about(3);
    int state = about(4);
    int to = about(4);
    int sign = about(3);
    int set = about(16);
    int rank = any(5) == 0 ? about(9) : 1 + 2 * any(3);
    int node = any(3) == 0 ? any(310) - 3 : about(20);
    int what = about(6);
    int i = about(any(2) == 0 ? 3 : 40);
    boolean is = any(2) == 0;
    String told = " with a " + a + " b " + b + " state " + state + " to " + to + " letter " + sign + " set " + set + " rank " + rank
        + " node " + node + " what " + what + " i " + i + " is " + is;
    switch (any(26)) {
      case 0: due(run, "automaton" + told, x.automaton(a, what), m.automaton(a, what)); break;
      case 1: due(run, "edge" + told, x.edge(a, state, sign, to), m.edge(a, state, sign, to)); break;
      case 2: due(run, "after" + told, x.after(a, set, sign), m.after(a, set, sign)); break;
      case 3: due(run, "bound" + told, x.bound(a, set), m.bound(a, set)); break;
      case 4: due(run, "rankings" + told, x.rankings(a, set, rank), m.rankings(a, set, rank)); break;
      case 5: due(run, "ranked" + told, x.ranked(a, set, rank, i, state), m.ranked(a, set, rank, i, state)); break;
      case 6: due(run, "complement" + told, x.complement(a), m.complement(a)); break;
      case 7: case 8: due(run, "node" + told, x.node(a, node, what), m.node(a, node, what)); break;
      case 9: due(run, "rank" + told, x.rank(a, node, state), m.rank(a, node, state)); break;
      case 10: case 11: due(run, "next" + told, x.next(a, node, sign, i), m.next(a, node, sign, i)); break;
      case 12: due(run, "nodes" + told, x.nodes(a, b), m.nodes(a, b)); break;
      case 13: due(run, "counts" + told, x.counts(a, sign, to), m.counts(a, sign, to)); break;
      case 14: due(run, "others" + told, x.others(a, sign, to), m.others(a, sign, to)); break;
      case 15: due(run, "empty" + told, x.empty(a), m.empty(a)); break;
      case 16: due(run, "all" + told, x.all(a), m.all(a)); break;
      case 17: case 18: due(run, "within" + told, x.within(a, b), m.within(a, b)); break;
      case 19: due(run, "shown" + told, x.shown(sign), m.shown(sign)); break;
      case 20: case 21: due(run, "link" + told, x.link(a, state, sign, to, is), m.link(a, state, sign, to, is)); break;
      case 22: due(run, "mark" + told, x.mark(a, state, is), m.mark(a, state, is)); break;
      case 23: due(run, "begin" + told, x.begin(a, state, is), m.begin(a, state, is)); break;
      default: texts(run, x, m, 2 + any(3));
    }
  }

  private static void told(int run, OddRanks x, Model m) {
    due(run, "trouble()", x.trouble(), m.trouble());
    due(run, "where()", x.where(), m.where());
    due(run, "fault()", x.fault(), m.fault());
    due(run, "size()", x.size(), m.size());
    due(run, "met()", x.met(), m.met());
    int letters = m.lettersShown();
    int every = any(4) == 0 ? 1 : letters + 1;
    for (int i = -1; i <= letters; i += every) due(run, "letter(" + i + ")", letter(x, i), letter(m, i));
  }

  public static void main(String[] args) {
    int runs = args.length > 0 ? Integer.parseInt(args[0]) : RUNS;
    int first = args.length > 1 ? Integer.parseInt(args[1]) : 0;
    for (int run = first; run < first + runs; run++) {
      seed = run * 7919L + 17;
      calls = 0;
      OddRanks x = new OddRanks();
      Model m = new Model();
      told(run, x, m);
      for (int k = 0; calls < MOST_CALLS && wrong == 0; k++) {
        if (k == 3 || any(25) == 0) texts(run, x, m, any(2));
        else oneCall(run, x, m);
        told(run, x, m);
      }
    }
    System.out.println(wrong == 0 ? "ModelTest: all answers are as due" : "ModelTest: " + wrong + " answers are not as due");
    if (wrong != 0) System.exit(1);
  }
}
