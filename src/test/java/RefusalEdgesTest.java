/**
 * Terms V: each call that may be refused, by each number, with the arguments just outside and far outside; that it is
 * refused by the number told first; and that nothing else has changed behind it.
 */
public final class RefusalEdgesTest {
  private interface Call { int on(OddRanks x); }

  private static final int MIN = Integer.MIN_VALUE;
  private static final int MAX = Integer.MAX_VALUE;
  private static final int[] NO_AUTOMATON = {-1, 3, 4, 32, MIN, MAX};

  /** 0 and 1 of two states, 2 of four states whose complement has no room. */
  private static final String THREE = Check.TWO + ";auto wide states 4;start 0;edge 0 a 0;edge 0 a 1;edge 0 a 2;edge 0 a 3;edge 0 b 1"
      + ";edge 1 b 2;edge 2 b 3;edge 3 a 0;edge 3 b 0";

  /** A lasso was shown, threes were met, the latest text had a fault, and a lasso of three bytes is on the tape. */
  private static OddRanks set() {
    OddRanks x = Check.with(THREE);
    x.within(0, 1);
    Check.automata(x, "letters 0");
    Check.put(x, "(b)");
    return x;
  }

  /** All that can be told but the trouble, and the tape's bytes. */
  private static String state(OddRanks x) {
    StringBuilder s = new StringBuilder();
    s.append(x.size()).append(' ').append(x.fault()).append(' ').append(x.met()).append(' ').append(Check.shown(x));
    for (int a = 0; a < 3; a++) {
      int states = x.automaton(a, 0);
      s.append(';').append(states);
      for (int what = 1; what < 5; what++) s.append(' ').append(x.automaton(a, what));
      for (int q = 0; q < states; q++) for (int letter = 0; letter < 2; letter++) s.append(' ').append(x.after(a, 1 << q, letter));
      s.append(' ').append(x.complement(a));
    }
    return s.toString();
  }

  private static void refused(int promise, String call, int number, Call body) {
    OddRanks x = set();
    String before = state(x);
    Check.refused(promise, call, x, body.on(x), number);
    Check.dueText(promise, "all that is told behind " + call, state(x), before);
    Check.answered(promise, "the lasso on the tape behind " + call, x, x.takes(0, 3), 1);
  }

  /** By 4 and by 3 of lacks() the tape is empty then; the rest stays. */
  private static void emptied(int promise, String call, int number, int fault, int where, Call body) {
    OddRanks x = set();
    String before = state(x);
    Check.refused(promise, call, x, body.on(x), number);
    Check.due(5, "where() behind " + call, x.where(), where);
    Check.dueText(promise, "all that is told behind " + call, state(x), before.replaceFirst("20 2 ", "0 " + fault + " "));
    Check.due(5, "where() behind calls that weren't refused", x.where(), -1);
  }

  private static void noAutomaton(int a) {
    Check.says("1 there is none such (no TEXT, AUTOMATON, STATE, NODE, letter, what)");
    refused(6, "automaton(" + a + ", 0)", 1, x -> x.automaton(a, 0));
    refused(7, "edge(" + a + ", 0, 0, 0)", 1, x -> x.edge(a, 0, 0, 0));
    refused(8, "after(" + a + ", 0, 0)", 1, x -> x.after(a, 0, 0));
    refused(9, "bound(" + a + ", 0)", 1, x -> x.bound(a, 0));
    refused(10, "rankings(" + a + ", 0, 1)", 1, x -> x.rankings(a, 0, 1));
    refused(11, "ranked(" + a + ", 1, 1, 0, 0)", 1, x -> x.ranked(a, 1, 1, 0, 0));
    refused(12, "complement(" + a + ")", 1, x -> x.complement(a));
    refused(13, "node(" + a + ", 0, 0)", 1, x -> x.node(a, 0, 0));
    refused(14, "rank(" + a + ", 0, 0)", 1, x -> x.rank(a, 0, 0));
    refused(15, "next(" + a + ", 0, 0, 0)", 1, x -> x.next(a, 0, 0, 0));
    refused(16, "nodes(" + a + ", 0)", 1, x -> x.nodes(a, 0));
    refused(17, "takes(" + a + ", 3)", 1, x -> x.takes(a, 3));
    refused(18, "lacks(" + a + ", 3)", 1, x -> x.lacks(a, 3));
    refused(19, "follows(" + a + ", 0, 3)", 1, x -> x.follows(a, 0, 3));
    refused(20, "counts(" + a + ", 0, 1)", 1, x -> x.counts(a, 0, 1));
    refused(21, "others(" + a + ", 0, 1)", 1, x -> x.others(a, 0, 1));
    refused(22, "empty(" + a + ")", 1, x -> x.empty(a));
    refused(23, "all(" + a + ")", 1, x -> x.all(a));
    refused(24, "within(" + a + ", 0)", 1, x -> x.within(a, 0));
    refused(24, "within(0, " + a + ")", 1, x -> x.within(0, a));
    for (boolean is : new boolean[] {true, false}) {
      refused(28, "link(" + a + ", 0, 0, 0, " + is + ")", 1, x -> x.link(a, 0, 0, 0, is));
      refused(29, "mark(" + a + ", 0, " + is + ")", 1, x -> x.mark(a, 0, is));
      refused(30, "begin(" + a + ", 0, " + is + ")", 1, x -> x.begin(a, 0, is));
    }
  }

  /** Numbers that are no state, nor a letter, of an automaton of two states with two letters. */
  private static void noneSuch(int n) {
    Check.says("1 there is none such (no TEXT, AUTOMATON, STATE, NODE, letter, what)");
    refused(7, "edge from " + n, 1, x -> x.edge(0, n, 0, 0));
    refused(7, "edge by " + n, 1, x -> x.edge(0, 0, n, 0));
    refused(7, "edge to " + n, 1, x -> x.edge(0, 0, 0, n));
    refused(8, "after by " + n, 1, x -> x.after(0, 0, n));
    refused(11, "ranked of STATE " + n, 1, x -> x.ranked(0, 1, 1, 0, n));
    refused(14, "rank of STATE " + n, 1, x -> x.rank(0, 0, n));
    refused(15, "next by " + n, 1, x -> x.next(0, 0, n, 0));
    refused(26, "shown(" + n + ")", 1, x -> x.shown(n));
    for (boolean is : new boolean[] {true, false}) {
      refused(28, "link from " + n + ", " + is, 1, x -> x.link(0, n, 0, 0, is));
      refused(28, "link by " + n + ", " + is, 1, x -> x.link(0, 0, n, 0, is));
      refused(28, "link to " + n + ", " + is, 1, x -> x.link(0, 0, 0, n, is));
      refused(29, "mark of STATE " + n + ", " + is, 1, x -> x.mark(0, n, is));
      refused(30, "begin in STATE " + n + ", " + is, 1, x -> x.begin(0, n, is));
    }
  }

  private static void whats() {
    Check.says("NONE: 1 (what, too)");
    for (int what : new int[] {-1, 5, 6, MIN, MAX}) refused(6, "automaton(0, " + what + ")", 1, x -> x.automaton(0, what));
    for (int what : new int[] {-1, 6, 7, MIN, MAX}) refused(13, "node(0, 0, " + what + ")", 1, x -> x.node(0, 0, what));
    for (int what : new int[] {-1, 3, 4, MIN, MAX}) refused(16, "nodes(0, " + what + ")", 1, x -> x.nodes(0, what));
    Check.says("NONE: 1 (i below 0, too); 3");
    for (int i : new int[] {-1, -2, MIN}) refused(15, "next(0, 0, 0, " + i + ")", 1, x -> x.next(0, 0, 0, i));
    Check.says("1 there is none such (no TEXT, AUTOMATON, STATE, NODE, letter, what)");
    for (int node : new int[] {-1, 3, 4, 299, 300, 301, MIN, MAX}) {
      refused(13, "node(0, " + node + ", 0)", 1, x -> x.node(0, node, 0));
      refused(13, "node(0, " + node + ", 5)", 1, x -> x.node(0, node, 5));
      refused(14, "rank(0, " + node + ", 0)", 1, x -> x.rank(0, node, 0));
      refused(15, "next(0, " + node + ", 0, 0)", 1, x -> x.next(0, node, 0, 0));
    }
  }

  private static void numbers() {
    Check.says("2 (no such bits)");
    for (int set : new int[] {-1, 4, 5, 8, 16, 1 << 30, MIN, MAX}) {
      refused(8, "after(0, " + set + ", 0)", 2, x -> x.after(0, set, 0));
      refused(9, "bound(0, " + set + ")", 2, x -> x.bound(0, set));
      refused(10, "rankings(0, " + set + ", 1)", 2, x -> x.rankings(0, set, 1));
      refused(11, "ranked(0, " + set + ", 1, 0, 0)", 2, x -> x.ranked(0, set, 1, 0, 0));
    }
    Check.says("with a greatest RANK (odd, 1 .. 7)");
    for (int rank : new int[] {-1, 0, 2, 4, 6, 8, 9, 33, MIN, MIN + 1, MAX}) {
      refused(10, "rankings(0, 3, " + rank + ")", 2, x -> x.rankings(0, 3, rank));
      refused(11, "ranked(0, 3, " + rank + ", 0, 0)", 2, x -> x.ranked(0, 3, rank, 0, 0));
    }
    Check.says("NONE: 1; 2; 4");
    for (int n : new int[] {-1, 21, 400, 401, MIN, MAX}) {
      refused(3, "automata(" + n + ")", 2, x -> x.automata(n));
      refused(17, "takes(0, " + n + ")", 2, x -> x.takes(0, n));
      refused(18, "lacks(0, " + n + ")", 2, x -> x.lacks(0, n));
      refused(19, "follows(0, 0, " + n + ")", 2, x -> x.follows(0, 0, n));
    }
    Check.says("so many ROUNDS (0 .. 20)");
    for (int rounds : new int[] {-1, 21, 22, MIN, MAX}) {
      refused(19, "follows(0, " + rounds + ", 3)", 2, x -> x.follows(0, rounds, 3));
      refused(19, "follows(0, " + rounds + ", 1) of no lasso", 2, x -> x.follows(0, rounds, 1));
      refused(19, "follows(0, " + rounds + ", 21)", 2, x -> x.follows(0, rounds, 21));
    }
    Check.says("with a STEM of so many letters (0 .. 3) and a ROUND of so many (1 .. 3)");
    for (int stem : new int[] {-1, 4, 5, MIN, MAX}) {
      refused(20, "counts(0, " + stem + ", 1)", 2, x -> x.counts(0, stem, 1));
      refused(21, "others(0, " + stem + ", 1)", 2, x -> x.others(0, stem, 1));
    }
    for (int round : new int[] {-1, 0, 4, 5, MIN, MAX}) {
      refused(20, "counts(0, 0, " + round + ")", 2, x -> x.counts(0, 0, round));
      refused(21, "others(0, 0, " + round + ")", 2, x -> x.others(0, 0, round));
    }
  }

  private static void noRoom() {
    Check.says("There are 300 at most (a 301st: NO ROOM)");
    refused(12, "complement(2)", 3, x -> x.complement(2));
    refused(13, "node(2, 0, 0)", 3, x -> x.node(2, 0, 0));
    refused(14, "rank(2, 0, 0)", 3, x -> x.rank(2, 0, 0));
    refused(15, "next(2, 0, 0, 0)", 3, x -> x.next(2, 0, 0, 0));
    refused(16, "nodes(2, 0)", 3, x -> x.nodes(2, 0));
    refused(21, "others(2, 0, 1)", 3, x -> x.others(2, 0, 1));
    refused(23, "all(2)", 3, x -> x.all(2));
    refused(24, "within(0, 2)", 3, x -> x.within(0, 2));
    refused(24, "within(2, 2)", 3, x -> x.within(2, 2));
    Check.says("but THE TAPE, which is empty, fault(), where() by 4, THE TAPE by 3 of lacks()");
    emptied(18, "lacks(2, 3)", 3, 0, -1, x -> x.lacks(2, 3));
    emptied(18, "lacks(2, 20)", 3, 0, -1, x -> x.lacks(2, 20));
    emptied(3, "automata(0)", 4, 1, 0, x -> x.automata(0));
    emptied(3, "automata(20)", 4, 1, 0, x -> x.automata(20));
    for (int a = 0; a < 3; a++) {
      int b = a;
      emptied(17, "takes(" + a + ", 0)", 4, 1, 0, x -> x.takes(b, 0));
      emptied(17, "takes(" + a + ", 1)", 4, 1, 1, x -> x.takes(b, 1));
      emptied(18, "lacks(" + a + ", 2)", 4, 1, 2, x -> x.lacks(b, 2));
      emptied(19, "follows(" + a + ", 20, 2)", 4, 1, 2, x -> x.follows(b, 20, 2));
    }
  }

  private static void notSo() {
    Check.says("5 (there are not so many; the STATE isn't of the set)");
    for (int i : new int[] {-1, 1, 2, 110, 128, MIN, MAX}) refused(11, "ranked(0, 3, 1, " + i + ", 0)", 5, x -> x.ranked(0, 3, 1, i, 0));
    refused(11, "ranked(0, 3, 3, 0, 0)", 5, x -> x.ranked(0, 3, 3, 0, 0));
    refused(11, "ranked(0, 3, 7, 0, 0)", 5, x -> x.ranked(0, 3, 7, 0, 0));
    refused(11, "ranked(0, 0, 1, 0, 0)", 5, x -> x.ranked(0, 0, 1, 0, 0));
    refused(11, "ranked(0, 1, 1, 0, 1)", 5, x -> x.ranked(0, 1, 1, 0, 1));
    refused(11, "ranked(2, 14, 5, 0, 0)", 5, x -> x.ranked(2, 14, 5, 0, 0));
    Check.says("NONE: 1; 5 (it is so)");
    refused(28, "link(0, 1, 0, 0, true)", 5, x -> x.link(0, 1, 0, 0, true));
    refused(28, "link(0, 0, 0, 1, false)", 5, x -> x.link(0, 0, 0, 1, false));
    refused(29, "mark(0, 1, true)", 5, x -> x.mark(0, 1, true));
    refused(29, "mark(0, 0, false)", 5, x -> x.mark(0, 0, false));
    refused(30, "begin(0, 0, true)", 5, x -> x.begin(0, 0, true));
    refused(30, "begin(0, 1, false)", 5, x -> x.begin(0, 1, false));
  }

  private static void order() {
    Check.says("Refusals are met in the order in which a call tells them");
    refused(8, "after: 1 of the AUTOMATON ahead of 2", 1, x -> x.after(3, -1, 0));
    refused(8, "after: 1 of the letter ahead of 2", 1, x -> x.after(0, -1, 2));
    refused(9, "bound: 1 ahead of 2", 1, x -> x.bound(3, -1));
    refused(10, "rankings: 1 ahead of 2 of the set", 1, x -> x.rankings(3, -1, 1));
    refused(10, "rankings: 1 ahead of 2 of the RANK", 1, x -> x.rankings(3, 1, 2));
    refused(11, "ranked: 1 of the STATE ahead of 2 of the set", 1, x -> x.ranked(0, 4, 1, 0, 2));
    refused(11, "ranked: 1 of the STATE ahead of 2 of the RANK", 1, x -> x.ranked(0, 3, 2, 0, 2));
    refused(11, "ranked: 1 of the STATE ahead of 5", 1, x -> x.ranked(0, 3, 1, 9, 2));
    refused(11, "ranked: 2 of the set ahead of 5", 2, x -> x.ranked(0, 4, 1, 9, 0));
    refused(11, "ranked: 2 of the RANK ahead of 5", 2, x -> x.ranked(0, 1, 2, 9, 1));
    refused(13, "node: 1 of what ahead of 3", 1, x -> x.node(2, 0, 6));
    refused(14, "rank: 1 of the STATE ahead of 3", 1, x -> x.rank(2, 0, 4));
    refused(15, "next: 1 of the letter ahead of 3", 1, x -> x.next(2, 0, 2, 0));
    refused(15, "next: 1 of i ahead of 3", 1, x -> x.next(2, 0, 0, -1));
    refused(16, "nodes: 1 of what ahead of 3", 1, x -> x.nodes(2, 3));
    refused(17, "takes: 1 ahead of 2", 1, x -> x.takes(3, 21));
    refused(17, "takes: 1 ahead of 4", 1, x -> x.takes(3, 1));
    refused(18, "lacks: 1 ahead of 2", 1, x -> x.lacks(-1, -1));
    refused(18, "lacks: 1 ahead of 4", 1, x -> x.lacks(3, 1));
    refused(18, "lacks: 2 ahead of 3", 2, x -> x.lacks(2, 21));
    emptied(18, "lacks: 4 ahead of 3", 4, 1, 1, x -> x.lacks(2, 1));
    refused(19, "follows: 1 ahead of 2 of the ROUNDS", 1, x -> x.follows(3, 21, 3));
    refused(19, "follows: 1 ahead of 2 of n", 1, x -> x.follows(3, 0, 21));
    refused(19, "follows: 1 ahead of 4", 1, x -> x.follows(3, 0, 1));
    refused(20, "counts: 1 ahead of 2", 1, x -> x.counts(3, 4, 0));
    refused(21, "others: 1 ahead of 2", 1, x -> x.others(3, 4, 0));
    refused(21, "others: 2 of the STEM ahead of 3", 2, x -> x.others(2, 4, 1));
    refused(21, "others: 2 of the ROUND ahead of 3", 2, x -> x.others(2, 0, 0));
    refused(24, "within: 1 of the first ahead of 3", 1, x -> x.within(3, 2));
    Check.says("whether a NODE that isn't below 0 is there is asked behind 3");
    for (int node : new int[] {300, 301, 1000, MAX}) {
      refused(13, "node(2, " + node + ", 0)", 3, x -> x.node(2, node, 0));
      refused(13, "node(2, " + node + ", 6)", 1, x -> x.node(2, node, 6));
      refused(14, "rank(2, " + node + ", 0)", 3, x -> x.rank(2, node, 0));
      refused(14, "rank(2, " + node + ", 4)", 1, x -> x.rank(2, node, 4));
      refused(15, "next(2, " + node + ", 0, 0)", 3, x -> x.next(2, node, 0, 0));
      refused(15, "next(2, " + node + ", 0, -1)", 1, x -> x.next(2, node, 0, -1));
    }
    for (int node : new int[] {-1, -300, MIN}) {
      refused(13, "node(2, " + node + ", 0)", 1, x -> x.node(2, node, 0));
      refused(14, "rank(2, " + node + ", 0)", 1, x -> x.rank(2, node, 0));
      refused(15, "next(2, " + node + ", 0, 0)", 1, x -> x.next(2, node, 0, 0));
    }
  }

  /** No number is told of these, so they tell nothing of the latest call that may be refused. */
  private static void untold() {
    Check.says("TROUBLE of the latest call that may be refused (those of which a number is told here)");
    OddRanks x = set();
    for (int k = 0; k < 6; k++) {
      int want = new int[] {0, 1, 2, 3, 4, 5}[k];
      switch (k) {
        case 0: x.empty(0); break;
        case 1: x.empty(3); break;
        case 2: x.bound(0, 4); break;
        case 3: x.complement(2); break;
        case 4: x.takes(0, 0); break;
        default: x.mark(0, 1, true);
      }
      Check.due(32, "trouble()", x.trouble(), want);
      x.size();
      x.met();
      x.fault();
      x.where();
      Check.throwsAt(x, 0);
      Check.throwsAt(x, -1);
      for (int i = 0; i < 21; i++) x.feed(0, 0, 0, 0, 0);
      Check.due(2, "feed of a full tape", x.feed(0, 0, 0, 0, 0), -1);
      Check.due(32, "trouble() behind calls of which none is told", x.trouble(), want);
      Check.due(32, "trouble() again", x.trouble(), want);
      Check.due(5, "where()", x.where(), want == 4 ? 0 : -1);
    }
    Check.due(26, "shown(0) may be refused", x.shown(0), 1);
    Check.due(32, "trouble() behind it", x.trouble(), 0);
  }

  public static void main(String[] args) {
    for (int a : NO_AUTOMATON) noAutomaton(a);
    for (int n : new int[] {-1, 2, 3, 4, 32, 33, MIN, MAX}) noneSuch(n);
    whats();
    numbers();
    noRoom();
    notSo();
    order();
    untold();
    Check.end("RefusalEdgesTest");
  }
}
