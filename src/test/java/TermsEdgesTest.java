/** Terms II to IV, sentence by sentence: after and takes, rankings and the complement, the lasso shown and the threes. */
public final class TermsEdgesTest {
  /** Four states without a final one, each of which stays where it is. */
  private static final String FOUR = "letters 1;auto x states 4;start 0;start 1;start 2;start 3;edge 0a0;edge 1a1;edge 2a2;edge 3a3";
  private static final String ALL_A = "letters 2;auto x states 1;start 0;final 0;edge 0a0";

  private static void afters() {
    Check.says("AFTER a set of STATES and a letter: all to which an EDGE by it goes from one of these");
    OddRanks x = Check.with("letters 2;auto x states 4;edge 0a3;edge 3a0;edge 3a3;edge 1b2;auto y states 1");
    int[][] due = {{0, 0, 0, 0}, {0, 1, 0, 8}, {0, 8, 0, 9}, {0, 9, 0, 9}, {0, 15, 0, 9}, {0, 6, 0, 0}, {0, 15, 1, 4}, {0, 13, 1, 0}, {1, 1, 1, 0}, {1, 0, 0, 0}};
    for (int[] n : due) Check.answered(8, "after(" + n[0] + ", " + n[1] + ", " + n[2] + ")", x, x.after(n[0], n[1], n[2]), n[3]);
  }

  private static void taken(String automaton, String lasso, int is) {
    OddRanks x = Check.with(automaton);
    Check.answered(17, "takes of " + lasso + " by " + automaton, x, Check.takes(x, 0, lasso), is);
    Check.answered(18, "lacks of " + lasso + " by " + automaton, x, Check.lacks(x, 0, lasso), 1 - is);
  }

  private static void takes() {
    Check.says("An AUTOMATON TAKES a LASSO, if some row of STATES from one in which it may begin");
    taken("letters 1;auto x states 1;final 0;edge 0a0", "(a)", 0);
    taken("letters 1;auto x states 2;start 0;final 1;edge 0a0;edge 1a1", "(a)", 0);
    taken("letters 1;auto x states 2;start 0;start 1;final 1;edge 0a0;edge 1a1", "(a)", 1);
    Check.says("EDGE by EDGE along its letters");
    taken("letters 2;auto x states 1;start 0;final 0;edge 0b0", "a(b)", 0);
    taken("letters 2;auto x states 1;start 0;final 0;edge 0b0", "b(b)", 1);
    taken("letters 2;auto x states 1;start 0;final 0;edge 0b0", "(ba)", 0);
    taken("letters 2;auto x states 2;start 0;final 0;edge 0a1;edge 1b0", "(ab)", 1);
    taken("letters 2;auto x states 2;start 0;final 0;edge 0a1;edge 1b0", "(ba)", 0);
    taken("letters 1;auto x states 1;start 0;final 0", "(a)", 0);
    Check.says("is in FINAL ones again and again without an end");
    taken("letters 1;auto x states 2;start 0;final 0;edge 0a1;edge 1a1", "(a)", 0);
    taken("letters 1;auto x states 3;start 0;final 0;final 1;edge 0a1;edge 1a2;edge 2a2", "aaaaaaa aaa(aaaaaaa aaa)", 0);
    taken("letters 1;auto x states 4;start 0;final 3;edge 0a1;edge 1a2;edge 2a3;edge 3a0", "(a)", 1);
    taken("letters 1;auto x states 4;start 0;final 3;edge 0a1;edge 1a2;edge 2a3;edge 3a0", "aaaaaaa aaa(aaaaaaa aaa)", 1);
    taken("letters 1;auto x states 4;start 0;final 2;edge 0a1;edge 1a2;edge 2a3;edge 3a3", "(aaa)", 0);
    taken("letters 2;auto x states 3;start 0;final 2;edge 0a1;edge 1a2;edge 2b0", "(aab)", 1);
    taken("letters 2;auto x states 3;start 0;final 2;edge 0a1;edge 1a2;edge 2b0", "a(aba)", 1);
    taken("letters 2;auto x states 3;start 0;final 2;edge 0a1;edge 1a2;edge 2b0", "(aabb)", 0);
  }

  /** A final state beside one, two, three others: below the greatest rank it has each even one, and no odd one. */
  private static void evenOnes() {
    String[] texts = {"states 2;final 0", "states 3;final 0", "states 4;final 0", "states 2;final 1", "states 3;final 2", "states 4;final 3"};
    for (int k = 0; k < 6; k++) {
      OddRanks x = Check.with("letters 1;auto x " + texts[k]);
      int others = k % 3 + 1;
      int rank = 2 * others - 1;
      int set = (2 << others) - 1;
      int state = k < 3 ? 0 : others;
      int orders = others == 1 ? 1 : others == 2 ? 2 : 6;
      Check.answered(10, "rankings of " + texts[k], x, x.rankings(0, set, rank), orders * others);
      for (int i = 0; i < orders * others; i++) {
        int want = k < 3 ? 2 * (i / orders) : 2 * (i % others);
        Check.answered(11, "the FINAL one in the one at " + i + " of " + texts[k], x, x.ranked(0, set, rank, i, state), want);
      }
      Check.refused(11, "no more of " + texts[k], x, x.ranked(0, set, rank, orders * others, state), 5);
    }
  }

  private static void rankings() {
    OddRanks x = Check.with(FOUR);
    Check.says("a number (a RANK, 0 .. 7) to each of its STATES");
    for (int q = 0; q < 4; q++) {
      Check.answered(11, "the first with 7, of " + q, x, x.ranked(0, 15, 7, 0, q), 1 + 2 * q);
      Check.answered(11, "the last with 7, of " + q, x, x.ranked(0, 15, 7, 23, q), 7 - 2 * q);
      Check.answered(11, "the first with 1, of " + q, x, x.ranked(0, 15, 1, 0, q), q == 3 ? 1 : 0);
      Check.answered(11, "the last with 1, of " + q, x, x.ranked(0, 15, 1, 14, q), 1);
    }
    Check.says("to FINAL ones an even one");
    OddRanks y = Check.with("letters 1;auto x states 2;final 1");
    Check.answered(10, "rankings(0, 3, 1)", y, y.rankings(0, 3, 1), 1);
    Check.answered(11, "of the FINAL one", y, y.ranked(0, 3, 1, 0, 1), 0);
    Check.answered(10, "of the FINAL one alone", y, y.rankings(0, 2, 1), 0);
    evenOnes();
    Check.says("TIGHT: the greatest RANK is odd, and each odd number below it is a RANK, too");
    OddRanks z = Check.with("letters 1;auto x states 2");
    int[][] three = {{1, 3}, {3, 1}};
    Check.answered(10, "rankings(0, 3, 3)", z, z.rankings(0, 3, 3), 2);
    for (int i = 0; i < 2; i++) for (int q = 0; q < 2; q++) Check.answered(11, i + " of 3, of " + q, z, z.ranked(0, 3, 3, i, q), three[i][q]);
    Check.answered(10, "rankings(0, 1, 3)", z, z.rankings(0, 1, 3), 0);
    Check.answered(10, "rankings(0, 3, 5)", z, z.rankings(0, 3, 5), 0);
    Check.answered(10, "of the empty set", z, z.rankings(0, 0, 1), 0);
    Check.says("(So it is no greater than twice the STATES that aren't FINAL, less 1.)");
    for (int finals = 0; finals < 16; finals++) {
      StringBuilder text = new StringBuilder("letters 1;auto x states 4");
      for (int q = 0; q < 4; q++) if ((finals & 1 << q) != 0) text.append(";final ").append(q);
      OddRanks w = Check.with(text.toString());
      for (int set = 0; set < 16; set++) {
        int most = 2 * Integer.bitCount(set & ~finals) - 1;
        Check.answered(9, "bound of " + set + " with FINAL ones " + finals, w, w.bound(0, set), most > 0 ? most : -2);
        for (int rank = 1; rank <= 7; rank += 2) {
          int got = w.rankings(0, set, rank);
          Check.due(10, "whether " + set + " with FINAL ones " + finals + " has some with " + rank, got > 0 ? 1 : 0, rank <= most ? 1 : 0);
        }
      }
    }
    Check.says("ORDER of RANKINGS of a set: by the RANK of its lowest STATE, then of the next, and so on, the lesser first");
    for (int rank = 1; rank <= 7; rank += 2) {
      OddRanks v = Check.with(FOUR);
      int before = -1;
      int n = Math.min(100, v.rankings(0, 15, rank));
      for (int i = 0; i < n; i++) {
        int told = 0;
        for (int q = 0; q < 4; q++) told = told * 8 + v.ranked(0, 15, rank, i, q);
        Check.due(11, "whether the one at " + i + " with " + rank + " is greater", told > before ? 1 : 0, 1);
        before = told;
      }
    }
  }

  private static void sets() {
    Check.says("PAIRS of a TIGHT RANKING (of a set that isn't empty)");
    OddRanks x = Check.with("letters 2;auto x states 2;start 0;edge 0a0");
    Check.answered(12, "complement(0)", x, x.complement(0), 3);
    Check.answered(15, "from a SET to the empty SET", x, x.next(0, 0, 1, 0), 2);
    Check.answered(15, "and to no PAIR", x, x.next(0, 0, 1, 1), -2);
    Check.answered(15, "from a PAIR to nothing", x, x.next(0, 1, 1, 0), -2);
    Check.answered(13, "so it goes on by one letter alone", x, x.node(0, 1, 4), 1);
    Check.answered(15, "from the empty SET to itself", x, x.next(0, 2, 0, 0), 2);
    Check.answered(15, "and to no PAIR", x, x.next(0, 2, 0, 1), -2);
    Check.says("FINAL: the empty SET; a PAIR of which nothing OWES");
    int[] finals = {0, 1, 1};
    for (int v = 0; v < 3; v++) Check.answered(13, "node(0, " + v + ", 3)", x, x.node(0, v, 3), finals[v]);
    Check.answered(16, "nodes(0, 1)", x, x.nodes(0, 1), 2);
    OddRanks y = Check.with(Check.TWO);
    int[] owing = {0, 0, 1, 1, 0};
    for (int v = 0; v < 5; v++) Check.answered(13, "node(1, " + v + ", 3)", y, y.node(1, v, 3), owing[v]);
    Check.says("It begins with the SET of STATES in which the AUTOMATON may begin");
    OddRanks z = Check.with("letters 1;auto none states 4;auto all states 4;start 3;start 2;start 1;start 0;auto last states 4;start 3");
    int[] begins = {0, 15, 8};
    for (int a = 0; a < 3; a++) {
      Check.answered(13, "NODE 0 of " + a, z, z.node(a, 0, 0), begins[a]);
      Check.answered(13, "NODE 0 of " + a + " is a SET", z, z.node(a, 0, 1), -2);
      Check.answered(13, "NODE 0 of " + a + " owes nothing", z, z.node(a, 0, 2), 0);
    }
    Check.answered(12, "the empty SET alone", z, z.complement(0), 1);
    Check.answered(12, "with the empty SET behind it", z, z.complement(1), 2);
  }

  private static void pairs() {
    Check.says("from a SET: to the SET T; and to each PAIR of a TIGHT RANKING of T, by greatest RANKS 1, 3, .. , then by ORDER, of which nothing OWES");
    OddRanks x = Check.with("letters 1;auto x states 2;start 0;start 1;edge 0a0;edge 1a1");
    int[][] ranks = {{0, 1}, {1, 0}, {1, 1}, {1, 3}, {3, 1}};
    Check.answered(15, "the SET first", x, x.next(0, 0, 0, 0), 0);
    for (int i = 0; i < 5; i++) {
      Check.answered(15, "then PAIR " + i, x, x.next(0, 0, 0, i + 1), i + 1);
      Check.answered(13, "its greatest RANK", x, x.node(0, i + 1, 1), i < 3 ? 1 : 3);
      Check.answered(13, "it owes nothing", x, x.node(0, i + 1, 2), 0);
      for (int q = 0; q < 2; q++) Check.answered(14, "rank(0, " + (i + 1) + ", " + q + ")", x, x.rank(0, i + 1, q), ranks[i][q]);
    }
    Check.answered(15, "no more", x, x.next(0, 0, 0, 6), -2);
    Check.says("with the same greatest RANK, in which no STATE has a greater RANK than one of the set from which an EDGE by the letter goes to it");
    Check.answered(15, "from (0, 1) to (0, 1) that owes", x, x.next(0, 1, 0, 0), 6);
    Check.answered(15, "from (0, 1) to no other one", x, x.next(0, 1, 0, 1), -2);
    Check.answered(15, "from (1, 0) to (1, 0) that owes", x, x.next(0, 2, 0, 0), 7);
    Check.answered(15, "from (1, 0) to no other one", x, x.next(0, 2, 0, 1), -2);
    Check.answered(15, "from (1, 1) to (0, 1) that owes", x, x.next(0, 3, 0, 0), 6);
    Check.answered(15, "from (1, 1) to (1, 0) that owes", x, x.next(0, 3, 0, 1), 7);
    Check.answered(15, "from (1, 1) to itself", x, x.next(0, 3, 0, 2), 3);
    Check.answered(15, "from (1, 1) to no more", x, x.next(0, 3, 0, 3), -2);
    Check.answered(15, "from (1, 3) to itself, for 3 must stay", x, x.next(0, 4, 0, 0), 4);
    Check.answered(15, "from (1, 3) to no more", x, x.next(0, 4, 0, 1), -2);
    OddRanks m = Check.with("letters 1;auto x states 2;start 0;start 1;edge 0a0;edge 1a0;edge 1a1");
    Check.answered(14, "(1, 3): of 0", m, m.rank(0, 4, 0), 1);
    Check.answered(14, "(1, 3): of 1", m, m.rank(0, 4, 1), 3);
    Check.answered(15, "from (3, 1) to nothing, for 0 comes from 1, too", m, m.next(0, 5, 0, 0), -2);
    Check.says("OWES: if nothing owed, all with even RANKS; else those with even RANKS that are AFTER those that owed");
    OddRanks y = Check.with("letters 2;auto x states 3;start 0;start 1;start 2;final 1;final 2;edge 0a0;edge 1a1;edge 2a2;edge 0b0;edge 1b1;edge 0b2");
    int pair = y.next(0, 0, 0, 1);
    Check.answered(13, "a PAIR: of which nothing OWES", y, y.node(0, pair, 2), 0);
    int owing = y.next(0, pair, 0, 0);
    Check.answered(13, "all with even RANKS", y, y.node(0, owing, 2), 6);
    int fewer = y.next(0, owing, 1, 0);
    Check.answered(13, "the set is whole", y, y.node(0, fewer, 0), 7);
    Check.answered(13, "only those AFTER 1, 2 OWE", y, y.node(0, fewer, 2), 2);
    Check.answered(13, "whole still by a", y, y.node(0, y.next(0, fewer, 0, 0), 2), 2);
    OddRanks z = Check.with("letters 2;auto x states 2;start 0;start 1;final 1;edge 0a0;edge 1a1;edge 0b0");
    int last = z.next(0, z.next(0, z.next(0, 0, 0, 1), 0, 0), 1, 0);
    Check.answered(13, "nothing is AFTER what owed", z, z.node(0, last, 2), 0);
    Check.answered(13, "so it is FINAL again", z, z.node(0, last, 3), 1);
  }

  private static void numbers() {
    Check.says("NODES are numbered from 0 as they are met: from each NODE, in their order, by letters, in this order of each");
    for (String text : new String[] {Check.TWO, "letters 3;auto x states 3;start 0;final 2;edge 0a1;edge 0b2;edge 1c0;edge 2c0;edge 2a2;auto y states 1"}) {
      for (int a = 0; a < 2; a++) {
        OddRanks x = Check.with(text);
        int n = x.complement(a);
        int letters = x.automaton(a, 4);
        int met = 0;
        for (int v = 0; v < n; v++) {
          for (int letter = 0; letter < letters; letter++) {
            for (int i = 0, to = x.next(a, v, letter, 0); to >= 0 && i < 300; i++, to = x.next(a, v, letter, i)) {
              Check.due(15, "whether next(" + a + ", " + v + ", " + letter + ", " + i + ") is the next new one or an old one", to <= met + 1 ? 1 : 0, 1);
              met = Math.max(met, to);
            }
          }
        }
        Check.due(12, "how many were met", met + 1, n);
      }
    }
    Check.says("It takes just those that the AUTOMATON doesn't.");
    OddRanks x = Check.with("letters 3;auto x states 3;start 0;final 2;edge 0a1;edge 0b2;edge 1c0;edge 2c0;edge 2a2;edge 1a2;auto y states 1;auto z states 1;start 0;final 0;edge 0a0;edge 0b0;edge 0c0");
    for (int a = 0; a < 3; a++) {
      int words = 1;
      for (int stem = 0; stem <= 3; stem++) {
        for (int round = 1; round <= 3; round++) {
          Check.due(21, "counts and others(" + a + ", " + stem + ", " + round + ")", x.counts(a, stem, round) + x.others(a, stem, round), words * (round == 1 ? 3 : round == 2 ? 9 : 27));
        }
        words *= 3;
      }
    }
    Check.answered(20, "nothing is taken", x, x.counts(1, 3, 3), 0);
    Check.answered(21, "all are lacked", x, x.others(1, 3, 3), 729);
    Check.answered(20, "all are taken", x, x.counts(2, 3, 3), 729);
    Check.answered(21, "none is lacked", x, x.others(2, 3, 3), 0);
  }

  /** The nodes of two states that stay: 0 the SET, then (0,1) (1,0) (1,1) (1,3) (3,1), then (0,1) and (1,0) that owe. */
  private static void below() {
    Check.says("BELOW is a PAIR another one: same set, same greatest RANK, no RANK greater, what OWES in that one OWES in it, too, and they are unlike");
    OddRanks x = Check.with("letters 1;auto x states 2;start 0;start 1;edge 0a0;edge 1a1");
    Check.answered(12, "complement(0)", x, x.complement(0), 8);
    int[] below = {0, 1, 1, 0, 0, 0, 2, 2};
    for (int v = 0; v < 8; v++) Check.answered(13, "node(0, " + v + ", 5)", x, x.node(0, v, 5), below[v]);
    Check.answered(16, "PAIRS that aren't", x, x.nodes(0, 2), 3);
    belowOf("letters 1;auto x states 3;start 0;start 1;start 2;edge 0a0;edge 1a1;edge 2a2");
    belowOf("letters 2;auto x states 3;start 0;start 1;start 2;final 1;edge 0a0;edge 1a1;edge 2a2;edge 0b0;edge 2b1;edge 1b2");
    Check.says("same set");
    OddRanks y = Check.with("letters 2;auto x states 2;start 0;start 1;edge 0a0;edge 1a1;edge 0b0");
    for (int v = 0; v < y.complement(0); v++) {
      if (y.node(0, v, 0) == 1) Check.answered(13, "NODE " + v + " of the set of 0 alone", y, y.node(0, v, 5), 0);
    }
  }

  /** What is told of each node: its set, greatest rank, what owes, then the ranks. */
  private static int[][] told(String text, int n) {
    int[][] told = new int[n][7];
    for (int v = 0; v < n; v++) {
      OddRanks x = Check.with(text);
      for (int what = 0; what < 3; what++) told[v][what] = x.node(0, v, what);
      for (int q = 0; q < x.automaton(0, 0); q++) told[v][3 + q] = x.rank(0, v, q);
    }
    return told;
  }

  private static boolean isBelow(int[] p, int[] q) {
    boolean is = p[1] >= 0 && q[1] == p[1] && p[0] == q[0] && (p[2] & q[2]) == q[2];
    boolean isUnlike = p[2] != q[2];
    for (int state = 3; state < 7; state++) {
      is = is && p[state] <= q[state];
      isUnlike = isUnlike || p[state] != q[state];
    }
    return is && isUnlike;
  }

  /** By the words of the document, from what else is told of the nodes. */
  private static void belowOf(String text) {
    OddRanks x = Check.with(text);
    int n = x.complement(0);
    int[][] told = told(text, n);
    int free = 0;
    int deepest = 0;
    for (int v = 0; v < n; v++) {
      int want = 0;
      for (int u = 0; u < n; u++) if (isBelow(told[v], told[u])) want++;
      if (told[v][1] >= 0 && want == 0) free++;
      if (told[v][2] != 0) deepest = Math.max(deepest, want);
      OddRanks y = Check.with(text);
      Check.answered(13, "node(0, " + v + ", 5) of " + text, y, y.node(0, v, 5), want);
    }
    Check.answered(16, "nodes(0, 2) of " + text, x, x.nodes(0, 2), free);
    Check.due(13, "whether one that owes is below several in " + text, deepest > 2 ? 1 : 0, 1);
  }

  private static void shown(String text, int call, String want) {
    OddRanks x = Check.with(text);
    int got = call == 22 ? x.empty(0) : call == 23 ? x.all(0) : x.within(0, 1);
    Check.answered(call, "the call " + call + " of " + text, x, got, want.equals("-") ? 1 : 0);
    Check.dueShown(call, text, x, want);
  }

  private static void shows() {
    Check.says("of its marked nodes that can be come to from themselves by a letter or more the one that is met first");
    shown("letters 1;auto x states 1;start 0;final 0", 22, "-");
    shown("letters 1;auto x states 1;start 0;final 0;edge 0a0", 22, "(a)");
    shown("letters 1;auto x states 2;start 0;final 0;final 1;edge 0a1;edge 1a1", 22, "a(a)");
    shown("letters 1;auto x states 2;start 0;final 0;final 1;edge 0a1;edge 1a0", 22, "(aa)");
    shown("letters 2;auto x states 3;start 0;final 1;final 2;edge 0a2;edge 0b1;edge 1b1;edge 2b2", 22, "a(b)");
    shown("letters 2;auto x states 2;final 0;final 1;start 0;edge 1a1", 22, "-");
    for (String letter : new String[] {"a", "b", "c"}) {
      for (int last = 1; last < 4; last++) {
        String fan = ";edge 0" + letter + "1;edge 0" + letter + "2;edge 0" + letter + "3;edge " + last + "b" + last;
        shown("letters 3;auto x states 4;start 0;final 1;final 2;final 3" + fan, 22, letter + "(b)");
        shown("letters 3;auto x states 4;start 0;final " + last + fan, 22, letter + "(b)");
      }
    }
    Check.says("nodes are met by a queue: from the first ones on, one by one, by letters, then as told");
    shown("letters 2;auto x states 4;start 0;final 3;edge 0b1;edge 0a2;edge 1a3;edge 2b3;edge 3a3", 22, "ab(a)");
    shown("letters 2;auto x states 4;start 0;final 3;edge 0b1;edge 0a2;edge 1a3;edge 3a3;edge 2a2", 22, "ba(a)");
    shown("letters 2;auto x states 4;start 0;final 3;edge 0a1;edge 1a2;edge 2a3;edge 0b3;edge 3b3", 22, "b(b)");
    shown("letters 2;auto x states 4;start 0;final 2;final 3;edge 0a1;edge 1b3;edge 1b2;edge 3a3;edge 2b2", 22, "ab(b)");
    Check.says("ROUND: of ways from it back to it the one met first, likewise, from it on");
    shown("letters 2;auto x states 4;start 0;final 0;edge 0a1;edge 1a2;edge 2a0;edge 0b3;edge 3b0", 22, "(bb)");
    shown("letters 2;auto x states 3;start 0;final 0;edge 0b1;edge 1a0;edge 0a2;edge 2b0", 22, "(ab)");
    shown("letters 2;auto x states 2;start 0;final 0;edge 0a1;edge 1a0;edge 0b0", 22, "(b)");
    shown("letters 1;auto x states 4;start 0;final 0;edge 0a1;edge 1a2;edge 2a3;edge 3a0", 22, "(aaaa)");
    Check.says("(Of several first ones: by their numbers.)");
    shown("letters 2;auto x states 3;start 2;start 1;final 1;final 2;edge 1b1;edge 2a2", 22, "(b)");
    shown("letters 2;auto x states 4;start 3;start 1;final 0;final 2;edge 3a0;edge 1b2;edge 0a0;edge 2a2", 22, "b(a)");
    shown("letters 1;auto x states 2;start 0;start 1;final 1;edge 0a1;edge 1a0", 22, "(aa)");
    shown("letters 1;auto x states 4;start 0;start 1;start 2;start 3;final 3;edge 0a1;edge 1a2;edge 2a3;edge 3a0", 22, "(aaaa)");
    shown("letters 1;auto x states 3;start 0;start 2;final 2;edge 0a1;edge 1a2;edge 2a1", 22, "(aa)");
  }

  /** State 0 goes on with itself and with others, but nothing begins there. */
  private static void firstThrees() {
    OddRanks x = Check.with("letters 1;auto x states 3;edge 0a0;edge 0a1;edge 1a1;auto y states 1");
    Check.answered(24, "it may begin nowhere", x, x.within(0, 1), 1);
    Check.due(25, "nothing is met", x.met(), 0);
    int[][] due = {{2, 1}, {1, 2}, {0, 3}};
    for (int[] one : due) {
      x.begin(0, one[0], true);
      Check.answered(24, "it may begin in " + one[0] + ", too", x, x.within(0, 1), 1);
      Check.due(25, "met()", x.met(), one[1]);
    }
    for (int q = 2; q >= 0; q--) {
      x.begin(0, q, false);
      Check.answered(24, "not in " + q, x, x.within(0, 1), 1);
      Check.due(25, "met() when it may not begin in " + q, x.met(), q == 0 ? 0 : 2);
    }
  }

  private static void graphs() {
    Check.says("EMPTY: of an AUTOMATON the graph of its STATES, marked FINAL ones (first those in which it may begin; by a letter by the numbers of STATES)");
    shown("letters 2;auto x states 3;start 0;final 1;final 2;edge 0a2;edge 0a1;edge 1b1;edge 2a2", 22, "a(b)");
    shown("letters 1;auto x states 3;start 0;edge 0a0", 22, "-");
    shown("letters 1;auto x states 4", 22, "-");
    Check.says("ALL: that of THE COMPLEMENT, FINAL NODES");
    shown("letters 2;auto x states 1;start 0;final 0;edge 0a0;edge 0b0", 23, "-");
    shown("letters 2;auto x states 1;start 0;edge 0a0;edge 0b0", 23, "a(a)");
    shown("letters 2;auto x states 4", 23, "(a)");
    shown("letters 2;auto x states 1;start 0", 23, "a(a)");
    shown(ALL_A, 23, "b(a)");
    Check.says("first the STATES in which the one may begin, NODE 0, 0");
    shown("letters 1;auto x states 1;final 0;edge 0a0;auto y states 1", 24, "-");
    shown("letters 1;auto x states 1;start 0;final 0;edge 0a0;auto y states 1", 24, "a(aa)");
    shown("letters 2;auto x states 2;start 1;start 0;final 0;final 1;edge 0b0;edge 1a1;auto y states 1", 24, "b(bb)");
    firstThrees();
    Check.says("the mark of these: 1, if it is 0 and the STATE gone from is FINAL; 0, if it is 1 and the NODE gone from is; else as it is");
    shown("letters 1;auto x states 1;start 0;edge 0a0;auto y states 1", 24, "-");
    shown("letters 1;auto x states 2;start 0;final 1;edge 0a1;edge 1a0;auto y states 1", 24, "aa(aa)");
    shown("letters 1;auto x states 2;start 0;final 0;edge 0a1;edge 1a1;auto y states 1", 24, "-");
    shown("letters 1;auto x states 1;start 0;final 0;edge 0a0;auto y states 1;start 0;final 0;edge 0a0", 24, "-");
    Check.says("by a letter each STATE, by numbers, with each NODE in order");
    shown(Check.TWO, 24, "bb(bb)");
    OddRanks x = Check.with("letters 1;auto x states 2;start 0;edge 0a0;edge 0a1;edge 1a1;auto y states 1;start 0;edge 0a0;auto z states 1");
    Check.answered(24, "within(0, 1)", x, x.within(0, 1), 1);
    Check.due(25, "two STATES with two NODES, no marks", x.met(), 4);
    Check.answered(24, "within(0, 2)", x, x.within(0, 2), 1);
    Check.due(25, "two STATES with one NODE, no marks", x.met(), 2);
    Check.answered(24, "within(2, 0)", x, x.within(2, 0), 1);
    Check.due(25, "none", x.met(), 0);
    Check.answered(29, "mark(0, 1, true)", x, x.mark(0, 1, true), 2);
    Check.answered(24, "within(0, 2)", x, x.within(0, 2), 0);
    Check.due(25, "one STATE, another one with both marks", x.met(), 3);
    Check.dueShown(24, "within(0, 2)", x, "aa(aa)");
  }

  public static void main(String[] args) {
    afters();
    takes();
    rankings();
    sets();
    pairs();
    numbers();
    below();
    shows();
    graphs();
    Check.end("TermsEdgesTest");
  }
}
