/** The edges of promises 12 and 24: 300 nodes and 1,000 threes have room, one more has not. The model agrees. */
public final class LimitsTest {
  private static final String NODES_300 = "letters 1;auto x states 4;start 0;edge 0a0;edge 0a1;edge 0a2;edge 0a3;start 1;edge 1a0;edge 1a3"
      + ";start 2;edge 2a0;edge 2a1;edge 2a2;start 3;edge 3a0;edge 3a1;edge 3a2;edge 3a3";
  private static final String NODES_301 = "letters 1;auto x states 4;edge 0a0;edge 0a1;edge 0a3;edge 1a0;edge 1a1;edge 1a2;edge 1a3;edge 2a0"
      + ";edge 2a2;start 3;edge 3a0;edge 3a1;edge 3a2;edge 3a3";
  private static final String THREES_1000 = "letters 2;auto x states 4;start 0;edge 0a3;edge 0b2;edge 0b3;edge 2a2;edge 2b0;edge 3b1;edge 3b3"
      + ";auto y states 4;edge 0a0;edge 0a1;edge 0a2;edge 0b0;edge 0b1;edge 0b2;edge 0b3;edge 1a0;edge 1a1;edge 1a2;edge 1a3;edge 1b0;edge 1b3"
      + ";start 2;edge 2a1;edge 2a2;edge 2b0;edge 2b1;edge 2b2;edge 2b3;final 3;edge 3a0;edge 3a2;edge 3b0;edge 3b1;edge 3b2;edge 3b3";
  private static final String THREES_1001 = "letters 3;auto x states 4;start 0;edge 0a1;edge 0b1;final 1;edge 1a0;edge 1b1;edge 1c1;edge 1c2"
      + ";edge 1c3;edge 2a0;edge 2b0;edge 2c3;edge 3a1;edge 3b2;edge 3b3;edge 3c3;auto y states 4;start 0;edge 0a1;edge 0a3;edge 0b2;edge 0c0"
      + ";start 1;edge 1a3;edge 1b1;edge 1c0;start 2;final 2;edge 2b0;edge 2b2;edge 2b3;edge 2c3;edge 3a1;edge 3a2;edge 3a3;edge 3b0;edge 3b1"
      + ";edge 3c0;edge 3c1;edge 3c3";

  private static Model model(String text) {
    Model m = new Model();
    for (int i = 0; i < text.length(); i += 20) {
      int[] n = new int[5];
      for (int k = 0; k < 20; k++) n[k / 4] = n[k / 4] << 8 | (i + k < text.length() ? text.charAt(i + k) : ' ');
      m.feed(n);
    }
    m.automata(text.length());
    return m;
  }

  private static void nodes() {
    Check.says("There are 300 at most (a 301st: NO ROOM).");
    OddRanks x = Check.with(NODES_300);
    Check.answered(12, "complement(0)", x, x.complement(0), 300);
    Check.due(12, "the model's complement(0)", model(NODES_300).complement(0), 300);
    Check.answered(13, "node(0, 299, 0)", x, x.node(0, 299, 0), 15);
    Check.refused(13, "node(0, 300, 0)", x, x.node(0, 300, 0), 1);
    Check.answered(16, "nodes(0, 0)", x, x.nodes(0, 0), model(NODES_300).nodes(0, 0));
    Check.answered(16, "nodes(0, 2)", x, x.nodes(0, 2), model(NODES_300).nodes(0, 2));
    Check.answered(21, "others(0, 3, 3)", x, x.others(0, 3, 3), 1);
    Check.answered(18, "lacks", x, Check.lacks(x, 0, "aaaaaaa aaa (aaaaaaa aaa)"), 1);
    OddRanks y = Check.with(NODES_301);
    Check.refused(12, "complement(0)", y, y.complement(0), 3);
    Check.due(12, "the model's complement(0)", model(NODES_301).complement(0), -1);
    Check.answered(28, "link", y, y.link(0, 3, 0, 3, false), 12);
    Model m = model(NODES_301);
    m.link(0, 3, 0, 3, false);
    Check.due(12, "complement(0) by one edge less", y.complement(0), m.complement(0));
    Check.answered(28, "link", y, y.link(0, 3, 0, 3, true), 13);
    Check.refused(12, "complement(0) again", y, y.complement(0), 3);
  }

  private static void threes() {
    Check.says("1,000 threes at most (a 1,001st: NO ROOM).");
    OddRanks x = Check.with(THREES_1000);
    Model m = model(THREES_1000);
    Check.answered(24, "within(1, 0)", x, x.within(1, 0), 0);
    Check.due(24, "the model's within(1, 0)", m.within(1, 0), 0);
    Check.due(25, "met()", x.met(), 1000);
    String shown = Check.shown(x);
    Check.answered(3, "automata", x, Check.automata(x, THREES_1001), 2);
    Check.refused(24, "within(1, 0)", x, x.within(1, 0), 3);
    Check.due(24, "the model's within(1, 0)", model(THREES_1001).within(1, 0), -1);
    Check.due(25, "met() stays", x.met(), 1000);
    Check.dueShown(26, "it stays", x, shown);
  }

  public static void main(String[] args) {
    nodes();
    threes();
    Check.end("LimitsTest");
  }
}
