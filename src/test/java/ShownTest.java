import java.util.Arrays;

/** Promises 22 to 30: empty, all, within and the lasso that they show; edges, marks put and taken. */
public final class ShownTest {
  private static void empties() {
    OddRanks x = Check.with(Check.TWO);
    Check.answered(22, "empty(0)", x, x.empty(0), 0);
    Check.dueShown(26, "empty(0)", x, "b(b)");
    Check.answered(22, "empty(1)", x, x.empty(1), 0);
    Check.dueShown(26, "empty(1)", x, "a(a)");
    OddRanks y = Check.with("letters 2;auto x states 4;start 2;start 1;final 3;final 0;edge 2 a 0;edge 1 b 3;edge 3 b 1;edge 3 a 2;edge 0 a 1"
        + ";auto none states 2;final 0;final 1;edge 0 a 0;auto left states 2;start 0;final 0;edge 0 a 1;edge 1 a 1");
    Check.answered(22, "of several first ones by numbers", y, y.empty(0), 0);
    Check.dueShown(26, "empty(0)", y, "b(bb)");
    Check.answered(22, "it may not begin", y, y.empty(1), 1);
    Check.dueShown(26, "empty(1)", y, "-");
    Check.answered(22, "final ones that don't come again", y, y.empty(2), 1);
    Check.dueShown(26, "empty(2)", y, "-");
    OddRanks z = Check.with("letters 3;auto x states 3;start 0;final 0;edge 0 c 1;edge 0 b 2;edge 1 a 0;edge 2 c 0"
        + ";auto y states 1;start 0;final 0;edge 0 c 0;edge 0 b 0");
    Check.answered(22, "the first itself", z, z.empty(0), 0);
    Check.dueShown(26, "the round met first, by letters", z, "(bc)");
    Check.answered(22, "a loop", z, z.empty(1), 0);
    Check.dueShown(26, "the first letter of the loop", z, "(b)");
    Check.refused(22, "empty(2)", z, z.empty(2), 1);
    Check.refused(22, "empty(-1)", z, z.empty(-1), 1);
    Check.dueShown(26, "it stays behind a refusal", z, "(b)");
  }

  /** The marked one on a loop that is met first isn't the one with the least number, nor any marked one. */
  private static void metFirst() {
    OddRanks x = Check.with("letters 2;auto x states 4;start 0;final 1;final 2;final 3;edge 0 a 3;edge 0 b 2;edge 2 a 1;edge 1 a 1;edge 3 b 0");
    Check.answered(22, "empty(0)", x, x.empty(0), 0);
    Check.dueShown(26, "the first met", x, "a(ba)");
    Check.due(28, "link", x.link(0, 3, 1, 0, false), 4);
    Check.answered(22, "empty(0)", x, x.empty(0), 0);
    Check.dueShown(26, "those that don't come again are passed over", x, "ba(a)");
  }

  private static void alls() {
    OddRanks x = Check.with(Check.TWO);
    Check.answered(23, "all(0)", x, x.all(0), 0);
    Check.dueShown(26, "all(0)", x, "a(a)");
    Check.answered(23, "all(1)", x, x.all(1), 0);
    Check.dueShown(26, "all(1)", x, "b(b)");
    OddRanks y = Check.with("letters 2;auto x states 1;start 0;final 0;edge 0 a 0;edge 0 b 0;auto y states 1;start 0;final 0;edge 0 a 0;auto z states 1");
    Check.answered(23, "it takes all", y, y.all(0), 1);
    Check.dueShown(26, "all(0)", y, "-");
    Check.answered(23, "it takes a alone", y, y.all(1), 0);
    Check.dueShown(26, "the empty SET", y, "b(a)");
    Check.answered(23, "it takes nothing", y, y.all(2), 0);
    Check.dueShown(26, "the empty SET from the first", y, "(a)");
    Check.refused(23, "all(3)", y, y.all(3), 1);
    Check.refused(23, "all(-1)", y, y.all(-1), 1);
    Check.dueShown(26, "it stays", y, "(a)");
    Check.refused(3, "another text that is none", y, Check.automata(y, "letters"), 4);
    Check.dueShown(26, "it stays behind a fault", y, "(a)");
    Check.answered(3, "another text", y, Check.automata(y, Check.WIDE), 2);
    Check.dueShown(26, "it stays behind another text", y, "(a)");
    Check.refused(23, "all(0), no room", y, y.all(0), 3);
    Check.dueShown(26, "it stays behind no room", y, "(a)");
  }

  private static void withins() {
    OddRanks x = Check.with(Check.TWO);
    Check.answered(24, "within(0, 1)", x, x.within(0, 1), 0);
    Check.due(25, "met()", x.met(), 11);
    Check.dueShown(26, "within(0, 1)", x, "bb(bb)");
    Check.answered(24, "within(1, 0)", x, x.within(1, 0), 0);
    Check.due(25, "met()", x.met(), 7);
    Check.dueShown(26, "within(1, 0)", x, "aa(aa)");
    Check.answered(24, "within(0, 0)", x, x.within(0, 0), 1);
    Check.due(25, "met()", x.met(), 6);
    Check.dueShown(26, "within(0, 0)", x, "-");
    Check.answered(22, "empty(0)", x, x.empty(0), 0);
    Check.refused(24, "within(2, 0)", x, x.within(2, 0), 1);
    Check.refused(24, "within(0, 2)", x, x.within(0, 2), 1);
    Check.refused(24, "within(-1, 0)", x, x.within(-1, 0), 1);
    Check.refused(24, "within(0, -1)", x, x.within(0, -1), 1);
    Check.due(25, "met() stays behind refusals and others", x.met(), 6);
    Check.dueShown(26, "of empty(0)", x, "b(b)");
    OddRanks y = Check.with(Check.WIDE);
    Check.refused(24, "within(1, 0), no room", y, y.within(1, 0), 3);
    Check.refused(24, "within(2, 0)", y, y.within(2, 0), 1);
    Check.due(25, "met() ahead of any", y.met(), 0);
    Check.answered(24, "within(0, 1)", y, y.within(0, 1), 1);
    Check.answered(24, "within(1, 1)", y, y.within(1, 1), 1);
    Check.due(25, "met()", y.met(), 1);
    Check.due(30, "begin", y.begin(1, 0, false), 0);
    Check.answered(24, "a first one that may not begin", y, y.within(1, 1), 1);
    Check.due(25, "met()", y.met(), 0);
    Check.refused(24, "and yet no room", y, y.within(1, 0), 3);
  }

  private static void shownWhat() {
    OddRanks x = Check.with(Check.TWO);
    Check.answered(26, "shown(0) ahead of any", x, x.shown(0), -2);
    Check.answered(26, "shown(1) ahead of any", x, x.shown(1), -2);
    Check.refused(26, "shown(2)", x, x.shown(2), 1);
    Check.refused(26, "shown(-1)", x, x.shown(-1), 1);
    Check.refused(26, "shown(MIN)", x, x.shown(Integer.MIN_VALUE), 1);
    Check.due(27, "letter(0) throws", Check.throwsAt(x, 0), 1);
    Check.due(32, "letter leaves trouble alone", x.trouble(), 1);
    x.empty(0);
    Check.refused(26, "shown(2) with one shown", x, x.shown(2), 1);
    Check.answered(26, "shown(0)", x, x.shown(0), 1);
    Check.answered(26, "shown(1)", x, x.shown(1), 1);
    Check.due(27, "letter(1)", x.letter(1), 1);
  }

  private static void links() {
    OddRanks x = Check.with(Check.TWO);
    Check.answered(12, "complement(0)", x, x.complement(0), 3);
    Check.answered(28, "an edge comes", x, x.link(0, 0, 0, 1, true), 5);
    Check.answered(7, "edge(0, 0, 0, 1)", x, x.edge(0, 0, 0, 1), 1);
    Check.answered(6, "automaton(0, 3)", x, x.automaton(0, 3), 5);
    Check.answered(6, "the other one stays", x, x.automaton(1, 3), 4);
    Check.refused(28, "it is so", x, x.link(0, 0, 0, 1, true), 5);
    Check.answered(17, "now it takes (a)", x, Check.takes(x, 0, "(a)"), 1);
    Check.answered(18, "and its complement doesn't", x, Check.lacks(x, 0, "(a)"), 0);
    Check.answered(28, "it goes", x, x.link(0, 0, 0, 1, false), 4);
    Check.refused(28, "it isn't there", x, x.link(0, 0, 0, 1, false), 5);
    Check.answered(18, "its complement takes (a) again", x, Check.lacks(x, 0, "(a)"), 1);
    Check.answered(12, "complement(0) as before", x, x.complement(0), 3);
    int[][] none = {{2, 0, 0, 0}, {-1, 0, 0, 0}, {0, -1, 0, 0}, {0, 2, 0, 0}, {0, 0, -1, 0}, {0, 0, 2, 0}, {0, 0, 0, -1}, {0, 0, 0, 2}};
    for (int[] n : none) {
      Check.refused(28, "link of " + Arrays.toString(n), x, x.link(n[0], n[1], n[2], n[3], true), 1);
      Check.refused(28, "link of " + Arrays.toString(n), x, x.link(n[0], n[1], n[2], n[3], false), 1);
    }
    Check.answered(6, "refused ones changed nothing", x, x.automaton(0, 3), 4);
  }

  private static void marks() {
    OddRanks x = Check.with(Check.TWO);
    Check.answered(23, "all(0)", x, x.all(0), 0);
    Check.answered(29, "mark(0, 0, true)", x, x.mark(0, 0, true), 3);
    Check.answered(6, "automaton(0, 2)", x, x.automaton(0, 2), 3);
    Check.answered(23, "all(0) now", x, x.all(0), 1);
    Check.refused(29, "it is so", x, x.mark(0, 0, true), 5);
    Check.answered(29, "mark(0, 1, false)", x, x.mark(0, 1, false), 1);
    Check.refused(29, "it isn't", x, x.mark(0, 1, false), 5);
    Check.answered(9, "bound(0, 3)", x, x.bound(0, 3), 1);
    Check.answered(6, "the other one stays", x, x.automaton(1, 2), 2);
    int[][] none = {{2, 0}, {-1, 0}, {0, -1}, {0, 2}, {0, 32}};
    for (int[] n : none) Check.refused(29, "mark of " + Arrays.toString(n), x, x.mark(n[0], n[1], true), 1);
    for (int[] n : none) Check.refused(29, "mark of " + Arrays.toString(n), x, x.mark(n[0], n[1], false), 1);
  }

  private static void begins() {
    OddRanks x = Check.with(Check.TWO);
    Check.answered(12, "complement(1)", x, x.complement(1), 5);
    Check.answered(30, "begin(1, 1, true)", x, x.begin(1, 1, true), 3);
    Check.answered(6, "automaton(1, 1)", x, x.automaton(1, 1), 3);
    Check.answered(13, "NODE 0 now", x, x.node(1, 0, 0), 3);
    Check.refused(30, "it is so", x, x.begin(1, 1, true), 5);
    Check.answered(30, "begin(1, 0, false)", x, x.begin(1, 0, false), 2);
    Check.answered(13, "NODE 0 then", x, x.node(1, 0, 0), 2);
    Check.refused(30, "it isn't", x, x.begin(1, 0, false), 5);
    Check.answered(30, "begin(1, 1, false)", x, x.begin(1, 1, false), 0);
    Check.answered(22, "nothing is taken", x, x.empty(1), 1);
    int[][] none = {{2, 0}, {-1, 0}, {0, -1}, {0, 2}, {0, 32}};
    for (int[] n : none) Check.refused(30, "begin of " + Arrays.toString(n), x, x.begin(n[0], n[1], true), 1);
    for (int[] n : none) Check.refused(30, "begin of " + Arrays.toString(n), x, x.begin(n[0], n[1], false), 1);
  }

  public static void main(String[] args) {
    empties();
    metFirst();
    alls();
    withins();
    shownWhat();
    links();
    marks();
    begins();
    Check.end("ShownTest");
  }
}
