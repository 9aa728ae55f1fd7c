import java.util.NoSuchElementException;

/** What the tests share: answers held against those that are due, and texts put on the tape. */
final class Check {
  /** Infinitely many b; from some place on only a. */
  static final String TWO = "letters 2;auto inf states 2;start 0;final 1;edge 0 a 0;edge 0 b 1;edge 1 a 0;edge 1 b 1"
      + ";auto fin states 2;start 0;final 1;edge 0 a 0;edge 0 b 0;edge 0 a 1;edge 1 a 1";
  /** An automaton whose complement has more than 300 nodes, and one of one state that takes nothing. */
  static final String WIDE = "letters 2;auto wide states 4;start 0;edge 0 a 0;edge 0 a 1;edge 0 a 2;edge 0 a 3;edge 0 b 1"
      + ";edge 1 b 2;edge 2 b 3;edge 3 a 0;edge 3 b 0;auto small states 1;start 0";

  private static int wrong;
  private static String sentence = "";

  private Check() { }

  /** What the document says, word by word: the answers from here on are held against it, and told with it. */
  static void says(String words) {
    sentence = words;
  }

  static void due(int promise, String call, int got, int want) {
    if (got != want) {
      wrong++;
      System.out.println("promise " + promise + ": " + call + " answered " + got + ", due is " + want + told());
    }
  }

  private static String told() {
    return sentence.isEmpty() ? "" : " (\"" + sentence + "\")";
  }

  static void dueText(int promise, String call, String got, String want) {
    if (!got.equals(want)) {
      wrong++;
      System.out.println("promise " + promise + ": " + call + " answered " + got + ", due is " + want + told());
    }
  }

  /** A call that is refused: its answer, and the number behind it. */
  static void refused(int promise, String call, OddRanks x, int got, int trouble) {
    due(promise, call, got, OddRanks.NONE);
    due(promise, "trouble() of " + call, x.trouble(), trouble);
    if (trouble != 4) due(5, "where() behind " + call, x.where(), OddRanks.NONE);
  }

  static void answered(int promise, String call, OddRanks x, int got, int want) {
    due(promise, call, got, want);
    due(32, "trouble() of " + call, x.trouble(), 0);
    due(5, "where() behind " + call, x.where(), OddRanks.NONE);
  }

  /** The text, with blanks behind it up to twenty bytes. */
  static void put(OddRanks x, String text) {
    for (int i = 0; i < text.length(); i += 20) {
      int[] n = new int[5];
      for (int k = 0; k < 20; k++) {
        n[k / 4] = n[k / 4] << 8 | (i + k < text.length() ? text.charAt(i + k) : ' ');
      }
      x.feed(n[0], n[1], n[2], n[3], n[4]);
    }
  }

  static int automata(OddRanks x, String text) {
    put(x, text);
    return x.automata(text.length());
  }

  static OddRanks with(String text) {
    OddRanks x = new OddRanks();
    if (automata(x, text) < 1) {
      wrong++;
      System.out.println("not read: " + text);
    }
    return x;
  }

  static int takes(OddRanks x, int a, String text) {
    put(x, text);
    return x.takes(a, text.length());
  }

  static int lacks(OddRanks x, int a, String text) {
    put(x, text);
    return x.lacks(a, text.length());
  }

  static int follows(OddRanks x, int a, int rounds, String text) {
    put(x, text);
    return x.follows(a, rounds, text.length());
  }

  /** The lasso shown, as a text; "-" if there is none. */
  static String shown(OddRanks x) {
    int stem = x.shown(0);
    int round = x.shown(1);
    if (stem < 0 || round < 0) return "-";
    StringBuilder s = new StringBuilder();
    for (int i = 0; i < stem + round; i++) {
      if (i == stem) s.append('(');
      s.append((char) ('a' + x.letter(i)));
    }
    return s.append(')').toString();
  }

  static void dueShown(int promise, String call, OddRanks x, String want) {
    String got = shown(x);
    if (!got.equals(want)) {
      wrong++;
      System.out.println("promise " + promise + ": " + call + " showed " + got + ", due is " + want + told());
    }
    int letters = want.equals("-") ? 0 : want.length() - 2;
    due(27, "letter(-1) throws", throwsAt(x, -1), 1);
    due(27, "letter(" + letters + ") throws", throwsAt(x, letters), 1);
    due(27, "letter(" + Integer.MAX_VALUE + ") throws", throwsAt(x, Integer.MAX_VALUE), 1);
    due(27, "letter(" + Integer.MIN_VALUE + ") throws", throwsAt(x, Integer.MIN_VALUE), 1);
    if (letters > 0) due(27, "letter(" + (letters - 1) + ") throws", throwsAt(x, letters - 1), 0);
  }

  static int throwsAt(OddRanks x, int i) {
    try {
      x.letter(i);
      return 0;
    } catch (NoSuchElementException e) {
      return 1;
    }
  }

  static void end(String test) {
    System.out.println(test + (wrong == 0 ? ": all answers are as due" : ": " + wrong + " answers are not as due"));
    if (wrong != 0) System.exit(1);
  }
}
