/** Promises 1 to 32, one by one: the sentences that name a boundary case, at the edge where the call is still answered. */
public final class PromiseEdgesTest {
  private static final int MAX = Integer.MAX_VALUE;

  private static void newObject() {
    Check.says("No TEXT.");
    OddRanks x = new OddRanks();
    Check.due(1, "size()", x.size(), 0);
    Check.due(1, "trouble()", x.trouble(), 0);
    Check.due(1, "fault()", x.fault(), 0);
    Check.due(1, "where()", x.where(), -1);
    Check.due(1, "met()", x.met(), 0);
    Check.due(1, "letter(0) throws", Check.throwsAt(x, 0), 1);
    Check.answered(1, "shown(0)", x, x.shown(0), -2);
    Check.answered(1, "shown(1)", x, x.shown(1), -2);
    for (int a = 0; a < 3; a++) {
      Check.refused(1, "automaton(" + a + ", 4)", x, x.automaton(a, 4), 1);
      Check.refused(1, "edge(" + a + ", 0, 0, 0)", x, x.edge(a, 0, 0, 0), 1);
      Check.refused(1, "after(" + a + ", 0, 0)", x, x.after(a, 0, 0), 1);
      Check.refused(1, "bound(" + a + ", 0)", x, x.bound(a, 0), 1);
      Check.refused(1, "rankings(" + a + ", 0, 1)", x, x.rankings(a, 0, 1), 1);
      Check.refused(1, "ranked(" + a + ", 0, 1, 0, 0)", x, x.ranked(a, 0, 1, 0, 0), 1);
      Check.refused(1, "complement(" + a + ")", x, x.complement(a), 1);
      Check.refused(1, "node(" + a + ", 0, 0)", x, x.node(a, 0, 0), 1);
      Check.refused(1, "rank(" + a + ", 0, 0)", x, x.rank(a, 0, 0), 1);
      Check.refused(1, "next(" + a + ", 0, 0, 0)", x, x.next(a, 0, 0, 0), 1);
      Check.refused(1, "nodes(" + a + ", 0)", x, x.nodes(a, 0), 1);
      Check.refused(1, "takes(" + a + ", 0)", x, x.takes(a, 0), 1);
      Check.refused(1, "lacks(" + a + ", 0)", x, x.lacks(a, 0), 1);
      Check.refused(1, "follows(" + a + ", 0, 0)", x, x.follows(a, 0, 0), 1);
      Check.refused(1, "counts(" + a + ", 0, 1)", x, x.counts(a, 0, 1), 1);
      Check.refused(1, "others(" + a + ", 0, 1)", x, x.others(a, 0, 1), 1);
      Check.refused(1, "empty(" + a + ")", x, x.empty(a), 1);
      Check.refused(1, "all(" + a + ")", x, x.all(a), 1);
      Check.refused(1, "within(" + a + ", " + a + ")", x, x.within(a, a), 1);
      Check.refused(1, "link(" + a + ", 0, 0, 0, true)", x, x.link(a, 0, 0, 0, true), 1);
      Check.refused(1, "mark(" + a + ", 0, true)", x, x.mark(a, 0, true), 1);
      Check.refused(1, "begin(" + a + ", 0, true)", x, x.begin(a, 0, true), 1);
    }
  }

  private static void feeds() {
    Check.says("Twenty bytes come behind THE TAPE, of each number the highest first");
    OddRanks x = new OddRanks();
    String text = "letters 2;auto x states 1;start 0;edge 0";
    Check.due(2, "feed", x.feed(0x6c657474, 0x65727320, 0x323b6175, 0x746f2078, 0x20737461), 20);
    Check.due(2, "feed", x.feed(0x74657320, 0x313b7374, 0x61727420, 0x303b6564, 0x67652030), 40);
    Check.due(2, "feed of bytes above 127", x.feed(0x61302020, 0x20202020, 0x20202020, 0xfffefd80, 0x81aa55c3), 60);
    Check.answered(3, "automata(42) of " + text + "a0", x, x.automata(42), 1);
    Check.answered(6, "EDGES", x, x.automaton(0, 3), 1);
    for (int k = 0; k < 20; k++) {
      OddRanks y = new OddRanks();
      int[] n = {0x20202020, 0x20202020, 0x20202020, 0x20202020, 0x20202020};
      n[k / 4] ^= (0x20 ^ 0xff) << 24 - k % 4 * 8;
      y.feed(n[0], n[1], n[2], n[3], n[4]);
      Check.refused(2, "automata of byte " + k, y, y.automata(20), 4);
      Check.due(2, "the place of byte " + k, y.where(), k);
    }
    Check.says("NONE, and none comes, if there would be more than 400");
    OddRanks z = new OddRanks();
    for (int k = 1; k <= 19; k++) Check.due(2, "feed " + k, z.feed(0x20202020, 0x20202020, 0x20202020, 0x20202020, 0x20202020), 20 * k);
    Check.due(2, "feed 20", z.feed(0x20202020, 0x20202020, 0x20202020, 0x20202020, 0x20202023), 400);
    for (int k = 0; k < 3; k++) {
      Check.due(2, "feed of a full tape", z.feed(0x61616161, 0, 0, 0, 0), -1);
      Check.due(31, "size() of a full tape", z.size(), 400);
    }
    Check.refused(3, "automata(400)", z, z.automata(400), 4);
    Check.due(5, "the last byte is as it was", z.where(), 399);
    Check.due(2, "feed of a tape that is empty again", z.feed(0x236c6574, 0, 0, 0, 0), 20);
    Check.refused(3, "automata(1)", z, z.automata(1), 4);
    Check.due(5, "the first byte is the new one", z.where(), 0);
  }

  private static void reads() {
    Check.says("The first n bytes of THE TAPE (it is empty then) are the AUTOMATA from now on: how many");
    String text = "letters 1;auto x states 1;auto y states 2;auto z states 3";
    int[] ends = {25, 41, 57};
    for (int count = 1; count <= 3; count++) {
      OddRanks x = Check.with("letters 2;auto p states 4;start 3;final 3;edge 3a3;auto q states 4;start 3;auto r states 4;final 3;edge 3b3");
      Check.put(x, text);
      Check.answered(3, "automata(" + ends[count - 1] + ")", x, x.automata(ends[count - 1]), count);
      Check.due(31, "size(), what is behind the first n bytes is gone, too", x.size(), 0);
      for (int a = 0; a < count; a++) {
        int[] due = {a + 1, 0, 0, 0, 1};
        for (int what = 0; what < 5; what++) Check.answered(3, "nothing of the old one: automaton(" + a + ", " + what + ")", x, x.automaton(a, what), due[what]);
        Check.answered(3, "nothing of the old complement", x, x.complement(a), 1);
      }
      Check.refused(3, "automaton(" + count + ", 0) is no more", x, x.automaton(count, 0), 1);
    }
    Check.says("2 (n)");
    OddRanks y = new OddRanks();
    Check.refused(3, "automata(1) of an empty tape", y, y.automata(1), 2);
    Check.refused(3, "automata(-1) of an empty tape", y, y.automata(-1), 2);
    Check.due(4, "fault() behind these", y.fault(), 0);
    Check.refused(3, "automata(0) of an empty tape", y, y.automata(0), 4);
    Check.due(4, "fault() behind this", y.fault(), 1);
    y.feed(0x20202020, 0x20202020, 0x20202020, 0x20202020, 0x20202020);
    Check.refused(3, "automata(21) of twenty bytes", y, y.automata(21), 2);
    Check.refused(3, "automata(20) of twenty bytes", y, y.automata(20), 4);
    Check.due(5, "where()", y.where(), 20);
    Check.says("4 (the AUTOMATA stay)");
    OddRanks z = Check.with(Check.TWO);
    String[] late = {"letters 3;auto x states 4;start 0;final 0;edge 0a0;start 0", "letters 1;auto x states 1;auto y states 1;auto z states 1;", "letters 3"};
    for (String bad : late) {
      Check.refused(3, "automata of " + bad, z, Check.automata(z, bad), 4);
      for (int what = 0; what < 5; what++) {
        Check.answered(3, "automaton(0, " + what + ") behind " + bad, z, z.automaton(0, what), new int[] {2, 1, 2, 4, 2}[what]);
        Check.answered(3, "automaton(1, " + what + ") behind " + bad, z, z.automaton(1, what), new int[] {2, 1, 2, 4, 2}[what]);
      }
      Check.answered(3, "complement(1) behind " + bad, z, z.complement(1), 5);
      Check.refused(3, "automaton(2, 0) behind " + bad, z, z.automaton(2, 0), 1);
    }
  }

  private static void faults() {
    Check.says("The FAULT of the latest call that read a text (not refused by 1, 2); 0 without one, ahead of any");
    OddRanks x = Check.with(Check.WIDE);
    String[] texts = {"", "letters 0", "letters 1;letters", "letters 1;auto x states 1;auto y states 1;auto z states 1;auto", "auto"};
    for (int k = 0; k < 5; k++) {
      Check.refused(3, "automata of " + texts[k], x, Check.automata(x, texts[k]), 4);
      Check.due(4, "fault()", x.fault(), k + 1);
      Check.refused(17, "takes(2, 0)", x, x.takes(2, 0), 1);
      Check.refused(18, "lacks(0, 1)", x, x.lacks(0, 1), 2);
      Check.refused(19, "follows(0, 21, 0)", x, x.follows(0, 21, 0), 2);
      Check.refused(3, "automata(1)", x, x.automata(1), 2);
      Check.due(4, "fault() behind 1, 2", x.fault(), k + 1);
      x.complement(0);
      x.empty(1);
      x.link(1, 0, 0, 0, false);
      Check.due(4, "fault() behind calls that read no text", x.fault(), k + 1);
      int kind = k % 3;
      if (kind == 0) Check.answered(17, "takes of (a)", x, Check.takes(x, 0, "(a)"), 0);
      if (kind == 1) Check.refused(18, "lacks of (a), no room", x, Check.lacks(x, 0, "(a)"), 3);
      if (kind == 2) Check.answered(19, "follows of (a)", x, Check.follows(x, 0, 0, "(a)"), 1);
      Check.due(4, "fault() behind a text without one", x.fault(), 0);
    }
    Check.refused(17, "takes of a long one", x, Check.takes(x, 0, "aaaaa aaaaa a(a)"), 4);
    Check.due(4, "fault()", x.fault(), 4);
    Check.answered(3, "automata", x, Check.automata(x, Check.TWO), 2);
    Check.due(4, "fault()", x.fault(), 0);
    Check.says("Its place, if the latest call that may be refused was by 4; NONE else");
    OddRanks y = Check.with(Check.TWO);
    Check.due(5, "where() behind a text without a fault", y.where(), -1);
    Check.refused(17, "takes of (ab", y, Check.takes(y, 0, "(ab"), 4);
    Check.due(5, "where()", y.where(), 3);
    Check.due(5, "where() again", y.where(), 3);
    y.feed(0, 0, 0, 0, 0);
    Check.due(5, "where() behind feed", y.where(), 3);
    Check.refused(17, "takes(2, 0)", y, y.takes(2, 0), 1);
    Check.due(4, "fault() is told still", y.fault(), 1);
    Check.due(5, "where() isn't", y.where(), -1);
    Check.refused(18, "lacks of (b(", y, y.lacks(0, 0), 4);
    Check.due(5, "where()", y.where(), 0);
    Check.answered(22, "empty(0)", y, y.empty(0), 0);
    Check.due(5, "where() behind a call that isn't refused", y.where(), -1);
  }

  private static void automata() {
    Check.says("Of an AUTOMATON 0 STATES, 1 those in which it may begin (bits), 2 FINAL ones (bits), 3 EDGES, 4 letters (of all)");
    StringBuilder full = new StringBuilder("letters 2;auto x states 4");
    for (int q = 0; q < 4; q++) full.append(";start ").append(q).append(";final ").append(q);
    for (int k = 0; k < 16; k++) full.append(";edge ").append(k / 4).append('a').append(k % 4);
    OddRanks x = Check.with(full.append(";auto y states 1").toString());
    for (int k = 0; k < 16; k++) Check.answered(28, "link " + k, x, x.link(0, k / 4, 1, k % 4, true), 17 + k);
    int[][] due = {{4, 15, 15, 32, 2}, {1, 0, 0, 0, 2}};
    for (int a = 0; a < 2; a++) for (int what = 0; what < 5; what++) Check.answered(6, "automaton(" + a + ", " + what + ")", x, x.automaton(a, what), due[a][what]);
    Check.says("1 if there is an EDGE, 0");
    OddRanks y = Check.with("letters 3;auto x states 4;edge 3c3;edge 0a0;edge 1b2");
    for (int k = 0; k < 48; k++) {
      boolean is = k == 47 || k == 0 || k == 16 + 4 + 2;
      Check.answered(7, "edge(0, " + k / 4 % 4 + ", " + k / 16 + ", " + k % 4 + ")", y, y.edge(0, k / 4 % 4, k / 16, k % 4), is ? 1 : 0);
    }
    Check.says("AFTER a set (bits of STATES). NONE: 1; 2 (no such bits)");
    for (int states = 1; states <= 4; states++) {
      OddRanks z = Check.with("letters 1;auto x states " + states + ";edge 0a" + (states - 1));
      int most = (1 << states) - 1;
      Check.answered(8, "after(0, " + most + ", 0)", z, z.after(0, most, 0), 1 << states - 1);
      Check.refused(8, "after(0, " + (most + 1) + ", 0)", z, z.after(0, most + 1, 0), 2);
      Check.answered(9, "bound(0, " + most + ")", z, z.bound(0, most), 2 * states - 1);
      Check.refused(9, "bound(0, " + (most + 1) + ")", z, z.bound(0, most + 1), 2);
      Check.refused(10, "rankings(0, " + (most + 1) + ", 1)", z, z.rankings(0, most + 1, 1), 2);
      Check.refused(11, "ranked(0, " + (most + 1) + ", 1, 0, 0)", z, z.ranked(0, most + 1, 1, 0, 0), 2);
    }
  }

  private static void rankings() {
    Check.says("The greatest RANK that a TIGHT RANKING of a set can have; -2 there is none");
    OddRanks x = Check.with("letters 1;auto x states 4;auto y states 2;final 0;final 1");
    Check.answered(9, "bound(0, 15)", x, x.bound(0, 15), 7);
    Check.answered(9, "bound(0, 0)", x, x.bound(0, 0), -2);
    Check.answered(9, "bound(1, 3)", x, x.bound(1, 3), -2);
    Check.says("How many TIGHT RANKINGS of a set there are with a greatest RANK (odd, 1 .. 7)");
    int[] due = {15, 110, 108, 24};
    for (int k = 0; k < 4; k++) Check.answered(10, "rankings(0, 15, " + (1 + 2 * k) + ")", x, x.rankings(0, 15, 1 + 2 * k), due[k]);
    for (int k = 0; k < 4; k++) Check.answered(10, "rankings(1, 3, " + (1 + 2 * k) + ")", x, x.rankings(1, 3, 1 + 2 * k), 0);
    for (int k = 0; k < 4; k++) Check.answered(10, "rankings(0, 0, " + (1 + 2 * k) + ")", x, x.rankings(0, 0, 1 + 2 * k), 0);
    Check.says("RANK of a STATE in the i-th of these, by ORDER");
    for (int k = 0; k < 4; k++) {
      int rank = 1 + 2 * k;
      Check.answered(11, "the last with " + rank, x, x.ranked(0, 15, rank, due[k] - 1, 0), rank);
      Check.refused(11, "one more with " + rank, x, x.ranked(0, 15, rank, due[k], 0), 5);
      Check.refused(11, "one below with " + rank, x, x.ranked(0, 15, rank, -1, 0), 5);
    }
    Check.answered(11, "the first", x, x.ranked(0, 15, 3, 0, 0), 0);
    Check.answered(11, "a set of one", x, x.ranked(0, 8, 1, 0, 3), 1);
    Check.refused(11, "there is one of it alone", x, x.ranked(0, 8, 1, 1, 3), 5);
    Check.says("the STATE isn't of the set");
    for (int q = 0; q < 4; q++) {
      if (q == 3) Check.answered(11, "STATE 3 of 8", x, x.ranked(0, 8, 1, 0, q), 1);
      else Check.refused(11, "STATE " + q + " of 8", x, x.ranked(0, 8, 1, 0, q), 5);
    }
  }

  private static void nodes() {
    Check.says("1 -2 a SET, else the greatest RANK, 2 what OWES (bits; 0 of a SET)");
    OddRanks x = Check.with("letters 1;auto x states 4;start 0;start 1;start 2;start 3;final 1;final 2;final 3;edge 0a0;edge 1a1;edge 2a2;edge 3a3");
    Check.answered(12, "complement(0)", x, x.complement(0), 3);
    int[][] due = {{15, -2, 0, 0, 2, 0}, {15, 1, 0, 1, 1, 0}, {15, 1, 14, 0, 1, 1}};
    for (int v = 0; v < 3; v++) for (int what = 0; what < 6; what++) Check.answered(13, "node(0, " + v + ", " + what + ")", x, x.node(0, v, what), due[v][what]);
    Check.refused(13, "node(0, 3, 0)", x, x.node(0, 3, 0), 1);
    Check.says("4 to how many NODES it goes by all letters (each counted by each)");
    OddRanks y = Check.with("letters 3;auto x states 1;start 0;edge 0a0;edge 0b0;edge 0c0");
    Check.answered(13, "two by each of three letters", y, y.node(0, 0, 4), 6);
    Check.answered(13, "one by each of three letters", y, y.node(0, 1, 4), 3);
    Check.says("RANK of a STATE in a NODE; -2 a SET, or it isn't of the set");
    for (int q = 0; q < 4; q++) {
      Check.answered(14, "rank(0, 0, " + q + ")", x, x.rank(0, 0, q), -2);
      Check.answered(14, "rank(0, 2, " + q + ")", x, x.rank(0, 2, q), q == 0 ? 1 : 0);
    }
    OddRanks z = Check.with("letters 1;auto x states 4;start 2;edge 2a2");
    for (int q = 0; q < 4; q++) Check.answered(14, "rank(0, 1, " + q + ")", z, z.rank(0, 1, q), q == 2 ? 1 : -2);
    Check.says("The i-th NODE to which a NODE goes by a letter, in order; -2 there are not so many");
    Check.answered(15, "next(0, 0, 0, 0)", z, z.next(0, 0, 0, 0), 0);
    Check.answered(15, "next(0, 0, 0, 1)", z, z.next(0, 0, 0, 1), 1);
    for (int i : new int[] {2, 3, 300, 1 << 16, 1 << 30, MAX}) Check.answered(15, "next(0, 0, 0, " + i + ")", z, z.next(0, 0, 0, i), -2);
    for (int i : new int[] {1, 2, MAX}) Check.answered(15, "next(0, 1, 0, " + i + ")", z, z.next(0, 1, 0, i), -2);
    Check.says("How many NODES are SETS (what 0), FINAL (1), PAIRS that aren't BELOW any NODE (2)");
    int[] nodes = {1, 1, 1};
    for (int what = 0; what < 3; what++) Check.answered(16, "nodes(0, " + what + ")", x, x.nodes(0, what), nodes[what]);
    OddRanks w = Check.with("letters 1;auto x states 1");
    int[] alone = {1, 1, 0};
    for (int what = 0; what < 3; what++) Check.answered(16, "of the empty SET alone nodes(0, " + what + ")", w, w.nodes(0, what), alone[what]);
  }

  private static void lassos() {
    Check.says("The first n bytes of THE TAPE (it is empty then) are a LASSO");
    for (int kind = 0; kind < 3; kind++) {
      OddRanks x = Check.with(Check.TWO);
      Check.put(x, "a(b)##################(a)");
      int got = kind == 0 ? x.takes(0, 4) : kind == 1 ? x.lacks(1, 4) : x.follows(0, 0, 4);
      Check.answered(17 + kind, "what is behind the first n bytes isn't read", x, got, 1);
      Check.due(31, "size()", x.size(), 0);
      int none = kind == 0 ? x.takes(0, 4) : kind == 1 ? x.lacks(1, 4) : x.follows(0, 0, 4);
      Check.refused(17 + kind, "it is gone", x, none, 2);
      Check.put(x, " ".repeat(397) + "(b)");
      got = kind == 0 ? x.takes(0, 400) : kind == 1 ? x.lacks(1, 400) : x.follows(0, 0, 400);
      Check.answered(17 + kind, "of a full tape", x, got, 1);
    }
    Check.says("behind the STEM and so many ROUNDS (0 .. 20)");
    OddRanks y = Check.with("letters 2;auto x states 4;start 0;edge 0a1;edge 1a2;edge 2a3;edge 3a0;edge 0b0;edge 2b2;auto y states 1");
    Check.answered(19, "0 ROUNDS", y, Check.follows(y, 0, 0, "aaa(a)"), 8);
    Check.answered(19, "1 ROUND", y, Check.follows(y, 0, 1, "aaa(a)"), 1);
    Check.answered(19, "20 ROUNDS", y, Check.follows(y, 0, 20, "aaa(a)"), 8);
    Check.answered(19, "19 ROUNDS", y, Check.follows(y, 0, 19, "aaa(a)"), 4);
    Check.answered(19, "20 ROUNDS of ten letters behind ten", y, Check.follows(y, 0, 20, "aaaaa aaaaa(aaaaa aaaaa)"), 4);
    Check.answered(19, "nothing from the STEM on", y, Check.follows(y, 0, 20, "ab(a)"), 0);
    Check.answered(19, "it may begin nowhere", y, Check.follows(y, 1, 0, "(a)"), 0);
    Check.says("Of all LASSOS with a STEM of so many letters (0 .. 3) and a ROUND of so many (1 .. 3)");
    for (int letters = 1; letters <= 3; letters++) {
      OddRanks z = Check.with("letters " + letters + ";auto x states 1;start 0;final 0;edge 0a0");
      int stems = 1;
      for (int stem = 0; stem <= 3; stem++) {
        int rounds = letters;
        for (int round = 1; round <= 3; round++) {
          Check.answered(20, "the one of " + letters + " letters, " + stem + ", " + round, z, z.counts(0, stem, round), 1);
          Check.answered(21, "the others of " + letters + " letters, " + stem + ", " + round, z, z.others(0, stem, round), stems * rounds - 1);
          rounds *= letters;
        }
        stems *= letters;
      }
    }
  }

  /** One word alone is taken, that of a and b by turns: it is told by a stem of any length and rounds of two letters. */
  private static void turns() {
    Check.says("Of all LASSOS with a STEM of so many letters (0 .. 3) and a ROUND of so many (1 .. 3)");
    for (int letters = 2; letters <= 3; letters++) {
      OddRanks x = Check.with("letters " + letters + ";auto x states 2;start 0;final 0;edge 0a1;edge 1b0;auto y states 1;start 0;final 0;edge 0b0");
      int stems = 1;
      for (int stem = 0; stem <= 3; stem++) {
        int rounds = letters;
        for (int round = 1; round <= 3; round++) {
          Check.answered(20, "by turns " + stem + ", " + round, x, x.counts(0, stem, round), round == 2 ? 1 : 0);
          Check.answered(21, "not by turns " + stem + ", " + round, x, x.others(0, stem, round), stems * rounds - (round == 2 ? 1 : 0));
          Check.answered(20, "b alone " + stem + ", " + round, x, x.counts(1, stem, round), 1);
          Check.answered(21, "not b alone " + stem + ", " + round, x, x.others(1, stem, round), stems * rounds - 1);
          rounds *= letters;
        }
        stems *= letters;
      }
    }
  }

  private static void shows() {
    Check.says("A LASSO that it TAKES is SHOWN then, else none is.");
    OddRanks x = Check.with("letters 1;auto x states 1;start 0;final 0;edge 0a0;auto y states 1;auto z states 1;start 0;edge 0a0");
    Check.answered(22, "empty(0)", x, x.empty(0), 0);
    Check.dueShown(22, "empty(0)", x, "(a)");
    Check.answered(22, "empty(1)", x, x.empty(1), 1);
    Check.dueShown(22, "empty(1)", x, "-");
    Check.says("One that it doesn't is SHOWN then.");
    Check.answered(23, "all(1)", x, x.all(1), 0);
    Check.dueShown(23, "all(1)", x, "(a)");
    Check.answered(23, "all(0)", x, x.all(0), 1);
    Check.dueShown(23, "all(0)", x, "-");
    Check.says("One that the first TAKES, not the second, is SHOWN then.");
    Check.answered(24, "within(0, 2)", x, x.within(0, 2), 0);
    Check.dueShown(24, "within(0, 2)", x, "a(aa)");
    Check.answered(24, "within(2, 0)", x, x.within(2, 0), 1);
    Check.dueShown(24, "within(2, 0)", x, "-");
    Check.says("How many threes there were to be met in the latest within() that wasn't refused (all that can be come to); 0 ahead of any");
    OddRanks y = Check.with(Check.TWO);
    Check.due(25, "met() ahead of any", y.met(), 0);
    y.empty(0);
    y.all(0);
    Check.due(25, "met() behind empty() and all()", y.met(), 0);
    Check.answered(24, "within(0, 1)", y, y.within(0, 1), 0);
    Check.due(25, "all, though one is found ahead of the last", y.met(), 11);
    Check.refused(24, "within(0, 2)", y, y.within(0, 2), 1);
    Check.due(25, "met() behind a refused one", y.met(), 11);
    Check.answered(24, "within(1, 0)", y, y.within(1, 0), 0);
    Check.due(25, "met() of the latest", y.met(), 7);
    Check.says("0 letters of the STEM, 1 of the ROUND; -2 none was. NONE: 1 (what)");
    Check.answered(26, "shown(0)", y, y.shown(0), 2);
    Check.answered(26, "shown(1)", y, y.shown(1), 2);
    Check.refused(26, "shown(2)", y, y.shown(2), 1);
    Check.refused(26, "shown(-1)", y, y.shown(-1), 1);
    Check.says("The LASSO SHOWN, met() stay till another one is told, whatever else is called");
    Check.due(28, "link", y.link(0, 0, 0, 1, true), 5);
    Check.due(29, "mark", y.mark(1, 0, true), 3);
    Check.due(30, "begin", y.begin(0, 0, false), 0);
    Check.automata(y, "letters 1;auto z states 1");
    Check.automata(y, "letters 1;auto");
    Check.takes(y, 0, "(a)");
    Check.refused(22, "empty(1)", y, y.empty(1), 1);
    Check.refused(23, "all(1)", y, y.all(1), 1);
    Check.due(25, "met()", y.met(), 7);
    Check.dueShown(26, "all these", y, "aa(aa)");
    Check.automata(y, Check.WIDE);
    Check.refused(23, "all(0)", y, y.all(0), 3);
    Check.refused(24, "within(0, 0)", y, y.within(0, 0), 3);
    Check.due(25, "met()", y.met(), 7);
    Check.dueShown(26, "what had no room", y, "aa(aa)");
    Check.says("NoSuchElementException if there is none such");
    Check.answered(22, "empty(1)", y, y.empty(1), 1);
    for (int i : new int[] {0, 1, 3, -1, MAX, Integer.MIN_VALUE}) Check.due(27, "letter(" + i + ") throws", Check.throwsAt(y, i), 1);
    Check.due(25, "met() stays behind empty()", y.met(), 7);
  }

  /** The letters of the way to the last state, then of its loop: the stem's first, and no more than there are. */
  private static void letters() {
    Check.says("Its i-th letter (0 a, ..; the STEM's, then the ROUND's)");
    OddRanks x = Check.with("letters 3;auto x states 4;start 0;final 3;edge 0c1;edge 1b2;edge 2a3;edge 3c2");
    Check.answered(22, "empty(0)", x, x.empty(0), 0);
    int[] due = {2, 1, 0, 2, 0};
    for (int i = 0; i < 5; i++) Check.due(27, "letter(" + i + ")", x.letter(i), due[i]);
    Check.dueShown(27, "empty(0)", x, "cba(ca)");
    Check.answered(28, "link", x, x.link(0, 3, 2, 2, false), 3);
    Check.answered(28, "link", x, x.link(0, 3, 1, 3, true), 4);
    Check.answered(22, "empty(0)", x, x.empty(0), 0);
    Check.dueShown(27, "a shorter one: letter(4) is none of it", x, "cba(b)");
  }

  private static void acts() {
    Check.says("An EDGE comes (is), or goes: EDGES then");
    OddRanks x = Check.with("letters 3;auto x states 4;auto y states 1");
    for (int k = 0; k < 48; k++) Check.answered(28, "it comes, " + k, x, x.link(0, k / 4 % 4, k / 16, k % 4, true), k + 1);
    Check.refused(28, "all are there", x, x.link(0, 3, 2, 3, true), 5);
    Check.answered(8, "after(0, 8, 2)", x, x.after(0, 8, 2), 15);
    for (int k = 0; k < 48; k++) Check.answered(28, "it goes, " + k, x, x.link(0, k / 4 % 4, k / 16, k % 4, false), 47 - k);
    Check.refused(28, "none is there", x, x.link(0, 0, 0, 0, false), 5);
    Check.answered(6, "of the other one", x, x.automaton(1, 3), 0);
    Check.says("A STATE is FINAL (is), or not: FINAL ones (bits)");
    for (int q = 0; q < 4; q++) Check.answered(29, "mark " + q, x, x.mark(0, q, true), (2 << q) - 1);
    for (int q = 0; q < 4; q++) Check.answered(29, "mark none of " + q, x, x.mark(0, q, false), 15 & ~((2 << q) - 1));
    Check.refused(29, "none is there", x, x.mark(0, 3, false), 5);
    Check.says("The AUTOMATON may begin (is) in a STATE, or not: those (bits)");
    for (int q = 0; q < 4; q++) Check.answered(30, "begin " + q, x, x.begin(0, q, true), (2 << q) - 1);
    for (int q = 0; q < 4; q++) Check.answered(30, "begin not in " + q, x, x.begin(0, q, false), 15 & ~((2 << q) - 1));
    Check.refused(30, "none is there", x, x.begin(0, 3, false), 5);
    Check.says("edges, marks put and taken");
    OddRanks y = Check.with("letters 1;auto x states 1");
    int[][] due = {{1, 0, 1, 1, 0}, {2, 0, 1, 1, 0}, {2, 0, 1, 1, 0}, {1, 1, 0, 0, 1}};
    for (int k = 0; k < 4; k++) {
      if (k == 1) y.begin(0, 0, true);
      if (k == 2) y.link(0, 0, 0, 0, true);
      if (k == 3) y.mark(0, 0, true);
      Check.answered(12, "complement(0), " + k, y, y.complement(0), due[k][0]);
      Check.answered(20, "counts(0, 0, 1), " + k, y, y.counts(0, 0, 1), due[k][1]);
      Check.answered(21, "others(0, 0, 1), " + k, y, y.others(0, 0, 1), due[k][2]);
      Check.answered(22, "empty(0), " + k, y, y.empty(0), due[k][3]);
      Check.answered(23, "all(0), " + k, y, y.all(0), due[k][4]);
      Check.answered(18, "lacks of (a), " + k, y, Check.lacks(y, 0, "(a)"), due[k][2]);
    }
  }

  /** Behind each act the complement is another one, though it was asked for ahead of it; and it is the old one again. */
  private static void acted() {
    Check.says("An EDGE comes (is), or goes: EDGES then");
    OddRanks x = Check.with("letters 2;auto x states 2;start 0;final 1;edge 0a1;edge 1b1;auto y states 1;start 0;final 0;edge 0a0;edge 0b0");
    for (int k = 0; k < 4; k++) {
      if (k > 0) Check.answered(28, "link " + k, x, x.link(0, 0, 1, 0, k % 2 == 1), k % 2 == 1 ? 3 : 2);
      Check.answered(20, "counts(0, 3, 1), " + k, x, x.counts(0, 3, 1), k % 2 == 1 ? 3 : 1);
      Check.answered(21, "others(0, 3, 1), " + k, x, x.others(0, 3, 1), k % 2 == 1 ? 13 : 15);
      Check.answered(15, "next(0, 0, 1, 0), " + k, x, x.next(0, 0, 1, 0), k % 2 == 1 ? 0 : 2);
    }
    Check.says("A STATE is FINAL (is), or not: FINAL ones (bits)");
    for (int k = 0; k < 4; k++) {
      if (k > 0) Check.answered(29, "mark " + k, x, x.mark(1, 0, k % 2 == 0), 1 - k % 2);
      Check.answered(23, "all(1), " + k, x, x.all(1), 1 - k % 2);
      Check.answered(16, "PAIRS of 1, " + k, x, x.nodes(1, 2), k % 2);
    }
    Check.says("The AUTOMATON may begin (is) in a STATE, or not: those (bits)");
    for (int k = 0; k < 4; k++) {
      if (k > 0) Check.answered(30, "begin " + k, x, x.begin(1, 0, k % 2 == 0), 1 - k % 2);
      Check.answered(13, "NODE 0 of 1, " + k, x, x.node(1, 0, 0), 1 - k % 2);
    }
  }

  private static void calls() {
    Check.says("An object is used for at most 512 calls after it has been made");
    OddRanks x = new OddRanks();
    int used = 0;
    for (int k = 0; k < 25; k++) {
      for (int i = 0; i < 20; i++, used++) Check.due(2, "feed " + i + " of tape " + k, x.feed(0x20202020, 0x20202020, 0x20202020, 0x20202020, 0x20202020), 20 * i + 20);
      Check.due(3, "automata(400) of tape " + k, x.automata(k == 24 ? 401 : 400), -1);
      used++;
      if (used > 480) break;
    }
    String text = "letters 1;auto x states 1;start 0;edge 0a0";
    x.automata(0);
    Check.put(x, text);
    used += 1 + (text.length() + 19) / 20;
    Check.due(3, "automata", x.automata(text.length()), 1);
    used++;
    for (; used < 511; used++) Check.due(12, "call " + used, x.complement(0), 2);
    Check.due(23, "call 512", x.all(0), 0);
  }

  private static void told() {
    Check.says("Bytes of THE TAPE.");
    OddRanks x = Check.with(Check.TWO);
    Check.due(31, "size() of an empty one", x.size(), 0);
    for (int k = 1; k <= 20; k++) {
      x.feed(0, 0, 0, 0, 0);
      Check.due(31, "size()", x.size(), 20 * k);
    }
    x.feed(0, 0, 0, 0, 0);
    Check.due(31, "size() of a full one", x.size(), 400);
    Check.refused(17, "takes(0, 401)", x, x.takes(0, 401), 2);
    Check.due(31, "size() behind 2", x.size(), 400);
    Check.refused(17, "takes(0, 400)", x, x.takes(0, 400), 4);
    Check.due(31, "size() behind 4", x.size(), 0);
    Check.says("TROUBLE.");
    Check.due(32, "trouble()", x.trouble(), 4);
    Check.due(32, "trouble() again", x.trouble(), 4);
    x.empty(0);
    Check.due(32, "trouble() of a call that wasn't refused", x.trouble(), 0);
  }

  public static void main(String[] args) {
    newObject();
    feeds();
    reads();
    faults();
    automata();
    rankings();
    nodes();
    lassos();
    turns();
    shows();
    letters();
    acts();
    acted();
    calls();
    told();
    Check.end("PromiseEdgesTest");
  }
}
