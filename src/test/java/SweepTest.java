/**
 * Whole families held against the model, none left out: texts cut at each place, with each byte put in each place,
 * with each byte gone or doubled; and all automata of two states with one letter, each come to from the one before by one act.
 */
public final class SweepTest {
  private static final String[] TEXTS = {
      "letters 2;auto ab states 2;start 1;final 0;edge 0a1;edge 1b0;auto b states 1;start 0;auto c states 4;final 3",
      "letters 1;auto x states 1;edge 0a0"};
  private static final String[] LASSOS = {"ab(ba)", " a bb ( b ab ) ", "abababa bab(aaaaa bbbbb)"};
  private static final int STATES = 2;
  private static final int BITS = 8;
  private static final int MOST_CALLS = 512;

  private static int calls;

  private static void put(Model m, String text) {
    for (int i = 0; i < text.length(); i += 20) {
      int[] n = new int[5];
      for (int k = 0; k < 20; k++) n[k / 4] = n[k / 4] << 8 | (i + k < text.length() ? text.charAt(i + k) : ' ');
      m.feed(n);
    }
  }

  private static Model model(String text) {
    Model m = new Model();
    put(m, text);
    m.automata(text.length());
    return m;
  }

  private static void sameText(String text) {
    OddRanks x = new OddRanks();
    Model m = new Model();
    put(m, text);
    String told = " of " + text;
    Check.due(3, "automata" + told, Check.automata(x, text), m.automata(text.length()));
    Check.due(32, "trouble()" + told, x.trouble(), m.trouble());
    Check.due(4, "fault()" + told, x.fault(), m.fault());
    Check.due(5, "where()" + told, x.where(), m.where());
    Check.due(31, "size()" + told, x.size(), 0);
    for (int a = 0; a < 3; a++) {
      for (int what = 0; what < 5; what++) Check.due(6, "automaton(" + a + ", " + what + ")" + told, x.automaton(a, what), m.automaton(a, what));
    }
  }

  private static void sameLasso(String text) {
    String automata = "letters 2;auto x states 2;start 0;final 1;edge 0a0;edge 0b1;edge 1a0";
    OddRanks x = Check.with(automata);
    Model m = model(automata);
    String told = " of " + text;
    put(m, text);
    Check.due(17, "takes" + told, Check.takes(x, 0, text), m.takes(0, text.length()));
    Check.due(32, "trouble()" + told, x.trouble(), m.trouble());
    Check.due(4, "fault()" + told, x.fault(), m.fault());
    Check.due(5, "where()" + told, x.where(), m.where());
    put(m, text);
    Check.due(18, "lacks" + told, Check.lacks(x, 0, text), m.lacks(0, text.length()));
    put(m, text);
    Check.due(19, "follows" + told, Check.follows(x, 0, 3, text), m.follows(0, 3, text.length()));
  }

  private static void same(String text, boolean isLasso) {
    if (isLasso) sameLasso(text);
    else sameText(text);
  }

  private static void spoil(String text, boolean isLasso) {
    same(text, isLasso);
    for (int at = 0; at <= text.length(); at++) {
      String ahead = text.substring(0, at);
      String behind = text.substring(at);
      same(ahead, isLasso);
      for (char sign : ";() 0129abcdz#".toCharArray()) same(ahead + sign + behind, isLasso);
      if (behind.isEmpty()) continue;
      for (int sign = 0; sign < 256; sign++) same(ahead + (char) sign + behind.substring(1), isLasso);
      same(ahead + behind.substring(1), isLasso);
      same(ahead + behind.charAt(0) + behind, isLasso);
    }
  }

  /** Of the bits four are edges, two are final states, two are states in which it may begin. */
  private static void turn(OddRanks x, Model m, int bit, boolean is) {
    String told = " of bit " + bit + ", " + is;
    if (bit < 4) Check.due(28, "link" + told, x.link(0, bit / 2, 0, bit % 2, is), m.link(0, bit / 2, 0, bit % 2, is));
    else if (bit < 6) Check.due(29, "mark" + told, x.mark(0, bit - 4, is), m.mark(0, bit - 4, is));
    else Check.due(30, "begin" + told, x.begin(0, bit - 6, is), m.begin(0, bit - 6, is));
    calls++;
  }

  private static void due(int promise, String call, int bits, int got, int want) {
    calls++;
    Check.due(promise, call + " of the automaton " + bits, got, want);
  }

  private static void sameAnswers(OddRanks x, Model m, int bits) {
    for (int what = 0; what < 5; what++) due(6, "automaton(0, " + what + ")", bits, x.automaton(0, what), m.automaton(0, what));
    int n = m.complement(0);
    due(12, "complement(0)", bits, x.complement(0), n);
    for (int what = 0; what < 3; what++) due(16, "nodes(0, " + what + ")", bits, x.nodes(0, what), m.nodes(0, what));
    for (int stem = 0; stem < 4; stem += 3) due(20, "counts(0, " + stem + ", 1)", bits, x.counts(0, stem, 1), m.counts(0, stem, 1));
    due(21, "others(0, 1, 2)", bits, x.others(0, 1, 2), m.others(0, 1, 2));
    due(22, "empty(0)", bits, x.empty(0), m.empty(0));
    sameShown(x, m, bits);
    due(23, "all(0)", bits, x.all(0), m.all(0));
    sameShown(x, m, bits);
    for (int b = 0; b < 3; b++) {
      due(24, "within(0, " + b + ")", bits, x.within(0, b), m.within(0, b));
      due(25, "met()", bits, x.met(), m.met());
      sameShown(x, m, bits);
      due(24, "within(" + b + ", 0)", bits, x.within(b, 0), m.within(b, 0));
      due(25, "met()", bits, x.met(), m.met());
      sameShown(x, m, bits);
    }
  }

  private static void sameShown(OddRanks x, Model m, int bits) {
    int stem = m.shown(0);
    int round = m.shown(1);
    due(26, "shown(0)", bits, x.shown(0), stem);
    due(26, "shown(1)", bits, x.shown(1), round);
    for (int i = 0; i < stem + round; i++) due(27, "letter(" + i + ")", bits, x.letter(i), m.letter(i));
    due(27, "letter(" + Math.max(0, stem + round) + ") throws", bits, Check.throwsAt(x, Math.max(0, stem + round)), 1);
  }

  private static void sameNodes(OddRanks x, Model m, int bits) {
    int n = m.complement(0);
    for (int v = 0; v <= n; v++) {
      for (int what = 0; what < 6; what++) due(13, "node(0, " + v + ", " + what + ")", bits, x.node(0, v, what), m.node(0, v, what));
      for (int q = 0; q < STATES; q++) due(14, "rank(0, " + v + ", " + q + ")", bits, x.rank(0, v, q), m.rank(0, v, q));
      for (int i = 0; i <= Math.max(0, m.node(0, v, 4)); i++) due(15, "next(0, " + v + ", 0, " + i + ")", bits, x.next(0, v, 0, i), m.next(0, v, 0, i));
    }
  }

  private static void sameRankings(OddRanks x, Model m, int bits) {
    for (int set = 0; set < 1 << STATES; set++) {
      due(8, "after(0, " + set + ", 0)", bits, x.after(0, set, 0), m.after(0, set, 0));
      due(9, "bound(0, " + set + ")", bits, x.bound(0, set), m.bound(0, set));
      for (int rank = 1; rank < 8; rank += 2) {
        int n = m.rankings(0, set, rank);
        due(10, "rankings(0, " + set + ", " + rank + ")", bits, x.rankings(0, set, rank), n);
        for (int i = 0; i <= n; i++) {
          for (int q = 0; q < STATES; q++) due(11, "ranked(0, " + set + ", " + rank + ", " + i + ", " + q + ")", bits, x.ranked(0, set, rank, i, q), m.ranked(0, set, rank, i, q));
        }
      }
    }
  }

  private static String text(int bits) {
    StringBuilder s = new StringBuilder("letters 1;auto x states 2");
    for (int bit = 0; bit < BITS; bit++) {
      if ((bits >> bit & 1) == 0) continue;
      if (bit < 4) s.append(";edge ").append(bit / 2).append('a').append(bit % 2);
      else s.append(bit < 6 ? ";final " + (bit - 4) : ";start " + (bit - 6));
    }
    return s.append(";auto y states 2;start 0;final 1;edge 0a0;edge 0a1;edge 1a1;auto z states 1;start 0;edge 0a0").toString();
  }

  /** One bit turns from each to the next (k ^ k / 2), so that what was kept of the one before would be seen. */
  private static void automata() {
    OddRanks x = Check.with(text(0));
    Model m = model(text(0));
    calls = MOST_CALLS;
    for (int k = 0; k < 1 << BITS; k++) {
      int bits = k ^ k / 2;
      if (calls > MOST_CALLS - 200) {
        x = Check.with(text(bits));
        m = model(text(bits));
        calls = 30;
      } else {
        int bit = Integer.numberOfTrailingZeros(k);
        turn(x, m, bit, (bits >> bit & 1) == 1);
      }
      sameAnswers(x, m, bits);
      int kept = calls;
      sameNodes(Check.with(text(bits)), m, bits);
      sameRankings(Check.with(text(bits)), m, bits);
      calls = kept;
    }
  }

  public static void main(String[] args) {
    for (String text : TEXTS) spoil(text, false);
    for (String text : LASSOS) spoil(text, true);
    automata();
    Check.end("SweepTest");
  }
}
