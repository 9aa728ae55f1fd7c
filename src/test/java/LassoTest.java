/** Promises 17 to 21: lassos taken, lacked, followed, counted, and the faults of their texts. */
public final class LassoTest {
  private static final String[] ENDLESS_B = {"(b)", "(ab)", "a(b)", "aab(aab)", "( a a a a a a a a a b )"};
  private static final String[] ENDLESS_A = {"(a)", "b(a)", "bbbbbb bbbb(aaaaaa aaaa)", "b b ( a a )"};

  private static void taken() {
    OddRanks x = Check.with(Check.TWO);
    for (String w : ENDLESS_B) {
      Check.answered(17, "takes(0) of " + w, x, Check.takes(x, 0, w), 1);
      Check.answered(17, "takes(1) of " + w, x, Check.takes(x, 1, w), 0);
      Check.answered(18, "lacks(0) of " + w, x, Check.lacks(x, 0, w), 0);
      Check.answered(18, "lacks(1) of " + w, x, Check.lacks(x, 1, w), 1);
    }
    for (String w : ENDLESS_A) {
      Check.answered(17, "takes(0) of " + w, x, Check.takes(x, 0, w), 0);
      Check.answered(17, "takes(1) of " + w, x, Check.takes(x, 1, w), 1);
      Check.answered(18, "lacks(0) of " + w, x, Check.lacks(x, 0, w), 1);
      Check.answered(18, "lacks(1) of " + w, x, Check.lacks(x, 1, w), 0);
    }
    OddRanks y = Check.with("letters 1;auto x states 3;start 0;start 2;final 1;final 0;edge 0 a 1;edge 2 a 2");
    Check.answered(17, "final ones that are left", y, Check.takes(y, 0, "(a)"), 0);
    Check.due(17, "link", y.link(0, 1, 0, 0, true), 3);
    Check.answered(17, "final ones again and again", y, Check.takes(y, 0, "aaa(aa)"), 1);
    Check.answered(17, "no state left", y, Check.takes(y, 0, "a(a)") + Check.lacks(y, 0, "a(a)"), 1);
    OddRanks z = Check.with("letters 2;auto x states 2;start 0;final 1;edge 0 a 1;edge 1 b 0");
    Check.answered(17, "only every other letter", z, Check.takes(z, 0, "(ab)"), 1);
    Check.answered(17, "a round of uneven length", z, Check.takes(z, 0, "(aba)"), 0);
    Check.answered(17, "a turned round", z, Check.takes(z, 0, "a(ba)"), 1);
  }

  private static void fault(String text, int fault, int where) {
    for (int kind = 0; kind < 3; kind++) {
      OddRanks x = Check.with(Check.TWO);
      int got = kind == 0 ? Check.takes(x, 1, text) : kind == 1 ? Check.lacks(x, 1, text) : Check.follows(x, 1, 0, text);
      Check.refused(17 + kind, "the text " + text, x, got, 4);
      Check.due(4, "fault() of " + text, x.fault(), fault);
      Check.due(5, "where() of " + text, x.where(), where);
      Check.due(31, "size() behind " + text, x.size(), 0);
    }
  }

  private static void faults() {
    fault("", 1, 0);
    fault("a", 1, 1);
    fault("a  ", 1, 3);
    fault("(", 1, 1);
    fault("()", 1, 1);
    fault("(a", 1, 2);
    fault("a(b", 1, 3);
    fault(")", 1, 0);
    fault("((a)", 1, 1);
    fault("(a(", 1, 2);
    fault("(a))", 1, 3);
    fault("(a)b", 1, 3);
    fault("(a);", 1, 3);
    fault("(a) 1", 1, 4);
    fault("a1(b)", 1, 1);
    fault("c(b)", 1, 0);
    fault("ab abc(b)", 1, 3);
    fault("a(ab abc)", 1, 5);
    fault("A(b)", 1, 0);
    fault("aaaaaaaa(b)", 1, 0);
    fault("a (bbbbbbbb)", 1, 3);
    fault("aaaaaaa aaab(b)", 4, 8);
    fault("aaaaaaa aaa b(b)", 4, 12);
    fault("aaaaaaa aaabc(b)", 4, 8);
    fault("aaaaaaa aaac(b)", 1, 8);
    fault("aaaaaaa aacb(b)", 1, 8);
    fault("(aaaaaaa aaab)", 4, 9);
    fault("aaaaaaa aaa (bbbbbbb bbbb", 4, 21);
    fault("(a b a b a b a b a b a )", 4, 21);
  }

  private static void numbers() {
    OddRanks x = Check.with(Check.TWO);
    Check.put(x, "(b) junk");
    Check.refused(17, "takes(2, 3)", x, x.takes(2, 3), 1);
    Check.refused(17, "takes(-1, 99)", x, x.takes(-1, 99), 1);
    Check.refused(17, "takes(0, 21)", x, x.takes(0, 21), 2);
    Check.refused(17, "takes(0, -1)", x, x.takes(0, -1), 2);
    Check.refused(18, "lacks(2, 3)", x, x.lacks(2, 3), 1);
    Check.refused(18, "lacks(0, 21)", x, x.lacks(0, 21), 2);
    Check.refused(18, "lacks(0, -1)", x, x.lacks(0, -1), 2);
    Check.refused(19, "follows(2, 0, 3)", x, x.follows(2, 0, 3), 1);
    Check.refused(19, "follows(2, -1, 99)", x, x.follows(2, -1, 99), 1);
    Check.refused(19, "follows(0, 0, 21)", x, x.follows(0, 0, 21), 2);
    Check.refused(19, "follows(0, 21, 3)", x, x.follows(0, 21, 3), 2);
    Check.refused(19, "follows(0, -1, 3)", x, x.follows(0, -1, 3), 2);
    Check.due(31, "size() behind refusals by 1, 2", x.size(), 20);
    Check.answered(17, "takes(0, 3)", x, x.takes(0, 3), 1);
    Check.due(31, "size()", x.size(), 0);
    Check.put(x, "(b)");
    Check.answered(17, "takes(0, 20), blanks behind it", x, x.takes(0, 20), 1);
  }

  private static void faultOfLatest() {
    OddRanks x = Check.with(Check.TWO);
    Check.refused(17, "takes(0) of (", x, Check.takes(x, 0, "("), 4);
    Check.refused(17, "takes(5, 0)", x, x.takes(5, 0), 1);
    Check.refused(17, "takes(0, 1)", x, x.takes(0, 1), 2);
    Check.due(4, "fault() behind refusals by 1, 2", x.fault(), 1);
    Check.answered(19, "follows(0, 0) of (a)", x, Check.follows(x, 0, 0, "(a)"), 1);
    Check.due(4, "fault() behind a text without one", x.fault(), 0);
    Check.refused(19, "follows(0, 0) of a", x, Check.follows(x, 0, 0, "a"), 4);
    Check.due(5, "where()", x.where(), 1);
    Check.due(5, "where() again", x.where(), 1);
    Check.answered(26, "shown(0)", x, x.shown(0), -2);
    Check.due(4, "fault() stays", x.fault(), 1);
  }

  private static void noRoom() {
    OddRanks x = Check.with(Check.WIDE);
    Check.refused(18, "lacks(0) of a fault", x, Check.lacks(x, 0, "a"), 4);
    Check.due(4, "fault()", x.fault(), 1);
    Check.refused(18, "lacks(0) of (a)", x, Check.lacks(x, 0, "(a)"), 3);
    Check.due(31, "size() behind 3 of lacks", x.size(), 0);
    Check.due(4, "fault() of a text without one", x.fault(), 0);
    Check.refused(18, "lacks(0, 1)", x, x.lacks(0, 1), 2);
    Check.answered(17, "takes(0) of (a)", x, Check.takes(x, 0, "(a)"), 0);
    Check.refused(21, "others(0, 0, 1)", x, x.others(0, 0, 1), 3);
    Check.refused(21, "others(0, 4, 1)", x, x.others(0, 4, 1), 2);
    Check.answered(20, "counts(0, 3, 3)", x, x.counts(0, 3, 3), 0);
    Check.answered(21, "others(1, 3, 3)", x, x.others(1, 3, 3), 64);
  }

  private static void followed() {
    OddRanks x = Check.with("letters 2;auto x states 4;start 0;edge 0 a 1;edge 1 a 2;edge 2 a 0;edge 0 b 0;edge 0 b 3;auto y states 1;edge 0 a 0");
    int[] at = {1, 2, 4, 1};
    for (int k = 0; k <= 20; k++) Check.answered(19, k + " rounds", x, Check.follows(x, 0, k, "(a)"), at[k % 3]);
    Check.answered(19, "a stem of two", x, Check.follows(x, 0, 0, "aa(a)"), 4);
    Check.answered(19, "a stem of two, a round of two, once", x, Check.follows(x, 0, 1, "aa(ab)"), 9);
    Check.answered(19, "then none but one goes on", x, Check.follows(x, 0, 1, "b(aa)"), 4);
    Check.answered(19, "none is left", x, Check.follows(x, 0, 3, "a(b)"), 0);
    Check.answered(19, "it may not begin", x, Check.follows(x, 1, 5, "(a)"), 0);
  }

  private static void counted() {
    OddRanks x = Check.with(Check.TWO);
    for (int stem = 0; stem <= 3; stem++) {
      for (int round = 1; round <= 3; round++) {
        int stems = 1 << stem;
        int rounds = 1 << round;
        Check.answered(20, "counts(0, " + stem + ", " + round + ")", x, x.counts(0, stem, round), stems * (rounds - 1));
        Check.answered(21, "others(0, " + stem + ", " + round + ")", x, x.others(0, stem, round), stems);
        Check.answered(20, "counts(1, " + stem + ", " + round + ")", x, x.counts(1, stem, round), stems);
        Check.answered(21, "others(1, " + stem + ", " + round + ")", x, x.others(1, stem, round), stems * (rounds - 1));
      }
    }
    OddRanks y = Check.with("letters 3;auto x states 2;start 0;final 1;edge 0 c 1;edge 1 a 1;edge 1 b 1;edge 1 c 1");
    Check.answered(20, "first c", y, y.counts(0, 3, 3), 243);
    Check.answered(21, "first not c", y, y.others(0, 3, 3), 486);
    Check.answered(20, "first c of the round", y, y.counts(0, 0, 3), 9);
    Check.answered(21, "first not c of the round", y, y.others(0, 0, 1), 2);
    int[][] none = {{2, 0, 1, 1}, {-1, 9, 9, 1}, {0, -1, 1, 2}, {0, 4, 1, 2}, {0, 0, 0, 2}, {0, 0, 4, 2}, {0, 0, -1, 2}, {0, Integer.MAX_VALUE, 1, 2}};
    for (int[] n : none) {
      Check.refused(20, "counts of " + java.util.Arrays.toString(n), x, x.counts(n[0], n[1], n[2]), n[3]);
      Check.refused(21, "others of " + java.util.Arrays.toString(n), x, x.others(n[0], n[1], n[2]), n[3]);
    }
  }

  public static void main(String[] args) {
    taken();
    faults();
    numbers();
    faultOfLatest();
    noRoom();
    followed();
    counted();
    Check.end("LassoTest");
  }
}
