import java.util.Arrays;

/** Promises 9 to 16: tight rankings, and the complement node by node. */
public final class RanksTest {
  private static void bounds() {
    OddRanks x = Check.with("letters 1;auto x states 4;auto y states 4;final 0;final 2;auto z states 1;final 0");
    int[][] due = {{0, 15, 7}, {0, 7, 5}, {0, 9, 3}, {0, 8, 1}, {0, 0, -2}, {1, 15, 3}, {1, 5, -2}, {1, 7, 1}, {1, 2, 1}, {2, 1, -2}, {2, 0, -2}};
    for (int[] n : due) Check.answered(9, "bound of " + Arrays.toString(n), x, x.bound(n[0], n[1]), n[2]);
    int[][] none = {{3, 0, 1}, {-1, 99, 1}, {0, 16, 2}, {0, -1, 2}, {2, 2, 2}, {2, Integer.MIN_VALUE, 2}};
    for (int[] n : none) Check.refused(9, "bound of " + Arrays.toString(n), x, x.bound(n[0], n[1]), n[2]);
  }

  private static void counted() {
    OddRanks x = Check.with("letters 1;auto x states 4;auto y states 4;final 0;final 2;auto z states 1;final 0");
    int[][] due = {{0, 15, 1, 15}, {0, 15, 3, 110}, {0, 15, 5, 108}, {0, 15, 7, 24}, {0, 7, 1, 7}, {0, 7, 3, 18}, {0, 7, 5, 6}, {0, 7, 7, 0},
        {0, 0, 1, 0}, {1, 15, 1, 3}, {1, 15, 3, 8}, {1, 15, 5, 0}, {1, 5, 1, 0}, {1, 3, 1, 1}, {1, 10, 3, 2}, {2, 1, 1, 0}};
    for (int[] n : due) Check.answered(10, "rankings of " + Arrays.toString(n), x, x.rankings(n[0], n[1], n[2]), n[3]);
    int[][] none = {{3, 0, 1, 1}, {-1, 99, 2, 1}, {0, 16, 1, 2}, {0, -1, 1, 2}, {0, 1, 0, 2}, {0, 1, 2, 2}, {0, 1, 6, 2}, {0, 1, 8, 2},
        {0, 1, 9, 2}, {0, 1, -1, 2}, {0, 1, Integer.MIN_VALUE + 1, 2}};
    for (int[] n : none) Check.refused(10, "rankings of " + Arrays.toString(n), x, x.rankings(n[0], n[1], n[2]), n[3]);
  }

  private static void inOrder() {
    OddRanks x = Check.with("letters 1;auto y states 4;final 2");
    int[][] three = {{0, 1, 3}, {0, 3, 1}, {1, 0, 3}, {1, 1, 3}, {1, 2, 3}, {1, 3, 0}, {1, 3, 1}, {1, 3, 2}, {1, 3, 3}, {2, 1, 3}, {2, 3, 1},
        {3, 0, 1}, {3, 1, 0}, {3, 1, 1}, {3, 1, 2}, {3, 1, 3}, {3, 2, 1}, {3, 3, 1}};
    for (int i = 0; i < three.length; i++) {
      for (int k = 0; k < 3; k++) {
        int state = k == 2 ? 3 : k;
        Check.answered(11, "ranked(0, 11, 3, " + i + ", " + state + ")", x, x.ranked(0, 11, 3, i, state), three[i][k]);
      }
    }
    int[][] one = {{0, 1}, {1, 0}, {1, 1}};
    for (int i = 0; i < 3; i++) {
      Check.answered(11, "ranked(0, 3, 1, " + i + ", 0)", x, x.ranked(0, 3, 1, i, 0), one[i][0]);
      Check.answered(11, "ranked(0, 3, 1, " + i + ", 1)", x, x.ranked(0, 3, 1, i, 1), one[i][1]);
    }
    int[][] even = {{1, 3, 0}, {1, 3, 2}, {3, 1, 0}, {3, 1, 2}};
    for (int i = 0; i < 4; i++) {
      for (int q = 0; q < 3; q++) Check.answered(11, "ranked(0, 7, 3, " + i + ", " + q + ")", x, x.ranked(0, 7, 3, i, q), even[i][q]);
    }
    Check.refused(11, "ranked(0, 7, 3, 4, 0)", x, x.ranked(0, 7, 3, 4, 0), 5);
    int[][] none = {{1, 0, 1, 0, 0, 1}, {0, 99, 2, -1, 4, 1}, {0, 3, 1, 0, -1, 1}, {0, 16, 1, 0, 0, 2}, {0, 3, 2, 99, 3, 2}, {0, -1, 1, 0, 0, 2},
        {0, 3, 1, 3, 0, 5}, {0, 3, 1, -1, 0, 5}, {0, 3, 1, 0, 2, 5}, {0, 3, 5, 0, 0, 5}, {0, 0, 1, 0, 0, 5}, {0, 3, 1, Integer.MAX_VALUE, 0, 5}};
    for (int[] n : none) Check.refused(11, "ranked of " + Arrays.toString(n), x, x.ranked(n[0], n[1], n[2], n[3], n[4]), n[5]);
  }

  /** Node by node: set, greatest rank, what owes, final, how many it goes to, how many it is below; ranks; where it goes. */
  private static void complementOfFin() {
    OddRanks x = Check.with(Check.TWO);
    Check.answered(12, "complement(0)", x, x.complement(0), 3);
    Check.answered(12, "complement(1)", x, x.complement(1), 5);
    int[][] nodes = {{1, -2, 0, 0, 5, 0}, {3, -2, 0, 0, 5, 0}, {3, 1, 0, 1, 2, 0}, {1, 1, 0, 1, 2, 0}, {3, 1, 2, 0, 2, 1}};
    int[][] ranks = {{-2, -2}, {-2, -2}, {1, 0}, {1, -2}, {1, 0}};
    int[][] byA = {{1, 2}, {1, 2}, {4}, {4}, {4}};
    int[][] byB = {{0, 3}, {0, 3}, {3}, {3}, {3}};
    for (int v = 0; v < 5; v++) {
      for (int what = 0; what < 6; what++) {
        if (what != 4) Check.answered(13, "node(1, " + v + ", " + what + ")", x, x.node(1, v, what), nodes[v][what]);
      }
      Check.answered(13, "node(1, " + v + ", 4)", x, x.node(1, v, 4), byA[v].length + byB[v].length);
      for (int q = 0; q < 2; q++) Check.answered(14, "rank(1, " + v + ", " + q + ")", x, x.rank(1, v, q), ranks[v][q]);
      for (int i = 0; i < 4; i++) {
        Check.answered(15, "next(1, " + v + ", 0, " + i + ")", x, x.next(1, v, 0, i), i < byA[v].length ? byA[v][i] : -2);
        Check.answered(15, "next(1, " + v + ", 1, " + i + ")", x, x.next(1, v, 1, i), i < byB[v].length ? byB[v][i] : -2);
      }
    }
    Check.answered(16, "nodes(1, 0)", x, x.nodes(1, 0), 2);
    Check.answered(16, "nodes(1, 1)", x, x.nodes(1, 1), 2);
    Check.answered(16, "nodes(1, 2)", x, x.nodes(1, 2), 2);
  }

  private static void emptySet() {
    OddRanks x = Check.with("letters 3;auto x states 2;auto y states 1;start 0;edge 0 b 0");
    Check.answered(12, "complement(0)", x, x.complement(0), 1);
    Check.answered(13, "the empty SET", x, x.node(0, 0, 0), 0);
    Check.answered(13, "the empty SET is a SET", x, x.node(0, 0, 1), -2);
    Check.answered(13, "the empty SET is FINAL", x, x.node(0, 0, 3), 1);
    Check.answered(13, "the empty SET goes by three letters", x, x.node(0, 0, 4), 3);
    Check.answered(15, "the empty SET goes to itself", x, x.next(0, 0, 2, 0), 0);
    Check.answered(16, "nodes(0, 0)", x, x.nodes(0, 0), 1);
    Check.answered(16, "nodes(0, 1)", x, x.nodes(0, 1), 1);
    Check.answered(16, "nodes(0, 2)", x, x.nodes(0, 2), 0);
    Check.answered(12, "complement(1)", x, x.complement(1), 3);
    Check.answered(15, "by a to the empty SET", x, x.next(1, 0, 0, 0), 1);
    Check.answered(15, "by b to itself", x, x.next(1, 0, 1, 0), 0);
    Check.answered(15, "and to the pair", x, x.next(1, 0, 1, 1), 2);
    Check.answered(15, "from which there is no way by a", x, x.next(1, 2, 0, 0), -2);
    Check.answered(14, "rank(1, 2, 0)", x, x.rank(1, 2, 0), 1);
  }

  /** Three states, none final: by greatest ranks 1, 3, 5, then by order. */
  private static void fanOfASet() {
    OddRanks x = Check.with("letters 1;auto x states 3;start 0;start 1;start 2;edge 0 a 0;edge 1 a 1;edge 2 a 2");
    Check.answered(15, "the SET first", x, x.next(0, 0, 0, 0), 0);
    for (int i = 1; i <= 31; i++) {
      int greatest = i <= 7 ? 1 : i <= 25 ? 3 : 5;
      int place = i <= 7 ? i - 1 : i <= 25 ? i - 8 : i - 26;
      Check.answered(15, "next(0, 0, 0, " + i + ")", x, x.next(0, 0, 0, i), i);
      Check.answered(13, "node(0, " + i + ", 1)", x, x.node(0, i, 1), greatest);
      Check.answered(13, "node(0, " + i + ", 2)", x, x.node(0, i, 2), 0);
      for (int q = 0; q < 3; q++) Check.due(14, "rank(0, " + i + ", " + q + ")", x.rank(0, i, q), x.ranked(0, 7, greatest, place, q));
    }
    Check.answered(15, "no more", x, x.next(0, 0, 0, 32), -2);
    Check.answered(15, "no more by far", x, x.next(0, 0, 0, Integer.MAX_VALUE), -2);
  }

  private static void refusals() {
    OddRanks x = Check.with(Check.TWO);
    Check.refused(12, "complement(2)", x, x.complement(2), 1);
    Check.refused(12, "complement(-1)", x, x.complement(-1), 1);
    int[][] node = {{2, 0, 0}, {0, -1, 0}, {0, 0, -1}, {0, 0, 6}, {0, 3, 0}, {0, 300, 0}, {0, Integer.MAX_VALUE, 0}, {0, Integer.MIN_VALUE, 0}};
    for (int[] n : node) Check.refused(13, "node of " + Arrays.toString(n), x, x.node(n[0], n[1], n[2]), 1);
    int[][] rank = {{2, 0, 0}, {0, -1, 0}, {0, 0, -1}, {0, 0, 2}, {0, 3, 0}, {0, Integer.MAX_VALUE, 0}};
    for (int[] n : rank) Check.refused(14, "rank of " + Arrays.toString(n), x, x.rank(n[0], n[1], n[2]), 1);
    int[][] next = {{2, 0, 0, 0}, {0, -1, 0, 0}, {0, 0, -1, 0}, {0, 0, 2, 0}, {0, 0, 0, -1}, {0, 3, 0, 0}, {0, Integer.MAX_VALUE, 0, 0}};
    for (int[] n : next) Check.refused(15, "next of " + Arrays.toString(n), x, x.next(n[0], n[1], n[2], n[3]), 1);
    int[][] nodes = {{2, 0}, {-1, 0}, {0, -1}, {0, 3}};
    for (int[] n : nodes) Check.refused(16, "nodes of " + Arrays.toString(n), x, x.nodes(n[0], n[1]), 1);
  }

  /** Where there is no room: 1 is asked ahead of it, but for a node that isn't below 0. */
  private static void noRoom() {
    OddRanks x = Check.with(Check.WIDE);
    Check.refused(12, "complement(0)", x, x.complement(0), 3);
    Check.refused(13, "node(0, 0, 0)", x, x.node(0, 0, 0), 3);
    Check.refused(13, "node(0, 999, 0)", x, x.node(0, 999, 0), 3);
    Check.refused(13, "node(0, -1, 0)", x, x.node(0, -1, 0), 1);
    Check.refused(13, "node(0, 999, 6)", x, x.node(0, 999, 6), 1);
    Check.refused(14, "rank(0, 0, 0)", x, x.rank(0, 0, 0), 3);
    Check.refused(14, "rank(0, 999, 3)", x, x.rank(0, 999, 3), 3);
    Check.refused(14, "rank(0, 999, 4)", x, x.rank(0, 999, 4), 1);
    Check.refused(14, "rank(0, -1, 0)", x, x.rank(0, -1, 0), 1);
    Check.refused(15, "next(0, 0, 0, 0)", x, x.next(0, 0, 0, 0), 3);
    Check.refused(15, "next(0, 999, 0, 0)", x, x.next(0, 999, 0, 0), 3);
    Check.refused(15, "next(0, 999, 0, -1)", x, x.next(0, 999, 0, -1), 1);
    Check.refused(15, "next(0, 999, 2, 0)", x, x.next(0, 999, 2, 0), 1);
    Check.refused(15, "next(0, -1, 0, 0)", x, x.next(0, -1, 0, 0), 1);
    Check.refused(16, "nodes(0, 0)", x, x.nodes(0, 0), 3);
    Check.refused(16, "nodes(0, 3)", x, x.nodes(0, 3), 1);
    Check.answered(12, "complement(1)", x, x.complement(1), 2);
    Check.answered(13, "node(1, 1, 0)", x, x.node(1, 1, 0), 0);
  }

  public static void main(String[] args) {
    bounds();
    counted();
    inOrder();
    complementOfFin();
    emptySet();
    fanOfASet();
    refusals();
    noRoom();
    Check.end("RanksTest");
  }
}
