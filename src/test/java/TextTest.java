/** Promises 1 to 8, 31, 32: a new object, the tape, the text of automata and its faults, what it told. */
public final class TextTest {
  private static final String A = "letters 2;auto x states 2";

  private static void newObject() {
    OddRanks x = new OddRanks();
    Check.due(1, "size()", x.size(), 0);
    Check.due(1, "trouble()", x.trouble(), 0);
    Check.due(1, "fault()", x.fault(), 0);
    Check.due(1, "where()", x.where(), -1);
    Check.due(1, "met()", x.met(), 0);
    Check.due(1, "letter(0) throws", Check.throwsAt(x, 0), 1);
    Check.due(1, "shown(0)", x.shown(0), -2);
    Check.refused(1, "automaton(0, 0)", x, x.automaton(0, 0), 1);
    Check.refused(1, "takes(0, 9)", x, x.takes(0, 9), 1);
    Check.refused(1, "follows(0, 21, 9)", x, x.follows(0, 21, 9), 1);
    Check.refused(1, "ranked(0, 99, 2, -1, 0)", x, x.ranked(0, 99, 2, -1, 0), 1);
    Check.refused(1, "mark(0, 0, true)", x, x.mark(0, 0, true), 1);
  }

  private static void tape() {
    OddRanks x = new OddRanks();
    Check.refused(3, "automata(1)", x, x.automata(1), 2);
    for (int k = 1; k <= 20; k++) Check.due(2, "feed " + k, x.feed(538976288, 0, -1, 1, 2), 20 * k);
    Check.due(2, "feed 21", x.feed(1, 2, 3, 4, 5), -1);
    Check.due(31, "size()", x.size(), 400);
    Check.due(32, "trouble() behind feed", x.trouble(), 2);
    Check.refused(3, "automata(401)", x, x.automata(401), 2);
    Check.refused(3, "automata(-1)", x, x.automata(-1), 2);
    Check.refused(3, "automata(MIN)", x, x.automata(Integer.MIN_VALUE), 2);
    Check.due(31, "size() behind a number refused", x.size(), 400);
    Check.due(4, "fault() behind a number refused", x.fault(), 0);
    Check.refused(3, "automata(400)", x, x.automata(400), 4);
    Check.due(5, "where()", x.where(), 4);
    Check.due(31, "size() behind a fault", x.size(), 0);
    Check.due(2, "feed", x.feed(0x6c657474, 0x65727320, 0x323b6175, 0x746f2078, 0x20737461), 20);
    Check.due(5, "where() behind feed", x.where(), 4);
    Check.due(2, "feed", x.feed(0x74657320, 0x34202020, 0x80ff0001, 0, 0), 40);
    Check.answered(3, "automata(25)", x, x.automata(25), 1);
    Check.due(31, "size() behind automata", x.size(), 0);
    Check.answered(6, "automaton(0, 0)", x, x.automaton(0, 0), 4);
  }

  private static void fault(String text, int fault, int where) {
    OddRanks x = Check.with(Check.TWO);
    Check.refused(3, "automata of " + text, x, Check.automata(x, text), 4);
    Check.due(4, "fault() of " + text, x.fault(), fault);
    Check.due(5, "where() of " + text, x.where(), where);
    Check.due(31, "size() behind " + text, x.size(), 0);
    Check.answered(3, "the automata stay behind " + text, x, x.automaton(1, 3), 4);
    Check.due(4, "fault() later of " + text, x.fault(), fault);
  }

  private static void formFaults() {
    fault("", 1, 0);
    fault("   ", 1, 3);
    fault("letters", 1, 7);
    fault("letters   ", 1, 10);
    fault("letters 2;", 1, 10);
    fault("letters 12", 1, 8);
    fault("letters a", 1, 8);
    fault("letters 2 auto x states 1", 1, 10);
    fault("letters 2;;auto x states 1", 1, 10);
    fault("letters 2;auto x states 1;", 1, 26);
    fault("letters 2;auto", 1, 14);
    fault("letters 2;auto ;", 1, 15);
    fault("letters 2;auto 1 states 1", 1, 15);
    fault("letters 2;auto edge states 1", 1, 15);
    fault("letters 2;auto final states 1", 1, 15);
    fault("letters 2;auto start states 1", 1, 15);
    fault("letters 2;auto auto states 1", 1, 15);
    fault("letters 2;auto letters states 1", 1, 15);
    fault("letters 2;auto x state 1", 1, 17);
    fault("letters 2;auto x statess 1", 1, 17);
    fault("letters 2;auto xstates 1", 1, 23);
    fault("letters 2;auto x states x", 1, 24);
    fault("letters 2;auto x states", 1, 23);
    fault("letters 2;auto eightlet states 1", 1, 15);
    fault("letters 2;auto x states 1 1", 1, 26);
    fault("letters 2;Auto x states 1", 1, 10);
    fault("letters 2,auto x states 1", 1, 9);
    fault("letters\t2", 1, 7);
    fault("\u0000", 1, 0);
    fault("letters\u00a02", 1, 7);
    fault("(", 1, 0);
    fault("2", 1, 0);
    fault("states 1", 1, 0);
    fault("lettersx 1", 1, 0);
    fault("better 1", 1, 0);
    fault("betters 1", 1, 0);
    fault("letters 2;duto x states 1", 1, 10);
    fault("letters 2;auto x stated 1", 1, 17);
    fault("letters 2;auto x ttates 1", 1, 17);
    fault(A + ";edge 0 c 1", 1, 33);
    fault(A + ";edge 0 ab 1", 1, 33);
    fault(A + ";edge 0 0 1", 1, 33);
    fault(A + ";edge 0a", 1, 33);
    fault(A + ";edge 0a)", 1, 33);
    fault(A + ";edge a a 1", 1, 31);
    fault(A + ";start", 1, 31);
    fault(A + ";start 00", 1, 32);
    fault(A + ";start 0;start 00", 1, 40);
    fault(A + ";start 0;start 10", 1, 40);
  }

  private static void otherFaults() {
    fault("letters 0", 2, 8);
    fault("letters 4", 2, 8);
    fault("letters 4 @", 2, 8);
    fault("letters 2;auto x states 0", 2, 24);
    fault("letters 2;auto x states 5", 2, 24);
    fault(A + ";start 2", 2, 32);
    fault(A + ";final 2", 2, 32);
    fault(A + ";edge 2 a 0", 2, 31);
    fault(A + ";edge 0 a 2", 2, 35);
    fault(A + ";start 0;start 9", 2, 40);
    fault("letters 2;auto x states 2;auto x states 2", 3, 31);
    fault("letters 2;auto x states 2;auto x", 3, 31);
    fault("letters 2;auto x states 2;auto x;", 3, 31);
    fault("letters 2;letters 2", 3, 10);
    fault("letters 2;letters", 3, 10);
    fault("letters 1;letters 2", 3, 10);
    fault("letters 2;auto abcdefg states 2;auto abcdefg states 2", 3, 37);
    fault("letters 2;auto ab states 2;auto abc states 2;auto ab states 2", 3, 50);
    fault("letters 2;letters 12", 3, 10);
    fault("letters 2;auto x states 2;letters )", 3, 26);
    fault(A + ";start 0;start 0", 3, 34);
    fault(A + ";start 0;start 0@", 3, 34);
    fault(A + ";final 1;final 0;final 1;", 3, 42);
    fault(A + ";edge 0 a 1;edge 0 b 1;edge 1 a 1;edge 0 a 0;edge 0 a 1", 3, 70);
    fault(A + ";edge 0a1;edge 0a1 1", 3, 35);
    fault("letters 1;auto x states 1;auto y states 1;auto z states 1;auto w states 1", 4, 58);
    fault("letters 1;auto x states 1;auto y states 1;auto z states 1;auto", 4, 58);
    fault("letters 1;auto x states 1;auto y states 1;auto z states 1;auto x states 1", 4, 58);
    fault("auto x states 1", 5, 0);
    fault("  auto", 5, 2);
    fault("start 0;letters 2", 5, 0);
    fault("edge", 5, 0);
    fault("final 0", 5, 0);
    fault("letters 2", 5, 9);
    fault("letters 2  ", 5, 11);
    fault("letters 2;start 0;auto x states 1", 5, 10);
    fault("letters 2;final", 5, 10);
    fault("letters 2;edge 0", 5, 10);
  }

  private static void goodTexts() {
    OddRanks x = new OddRanks();
    Check.answered(3, "tokens together", x, Check.automata(x, "letters3;auto abcdefg states4;start0;final3;edge0a1;edge0c3;start 3"), 1);
    Check.answered(6, "STATES", x, x.automaton(0, 0), 4);
    Check.answered(6, "those in which it may begin", x, x.automaton(0, 1), 9);
    Check.answered(6, "FINAL ones", x, x.automaton(0, 2), 8);
    Check.answered(6, "EDGES", x, x.automaton(0, 3), 2);
    Check.answered(6, "letters", x, x.automaton(0, 4), 3);
    Check.answered(7, "edge(0, 0, 2, 3)", x, x.edge(0, 0, 2, 3), 1);
    Check.answered(3, "tokens apart", x,
        Check.automata(x, "  letters  1 ; auto  a  states 1 ; start 0 ; edge 0 a 0 ; auto b states 1 ; auto c states 3 ; final 2  "), 3);
    Check.answered(6, "the same line of another automaton", x, x.automaton(0, 3), 1);
    Check.answered(6, "of the latest ahead", x, x.automaton(2, 2), 4);
    Check.answered(6, "nothing of the one between", x, x.automaton(1, 1) + x.automaton(1, 2) + x.automaton(1, 3), 0);
    Check.put(x, Check.TWO);
    Check.answered(3, "the first bytes alone", x, x.automata(27), 1);
    Check.due(31, "size()", x.size(), 0);
    Check.refused(6, "those of the old text are gone", x, x.automaton(1, 0), 1);
    StringBuilder full = new StringBuilder(Check.TWO);
    while (full.length() < 400) full.append(' ');
    Check.answered(3, "400 bytes", x, Check.automata(x, full.toString()), 2);
    Check.due(4, "fault() without one", x.fault(), 0);
    Check.answered(3, "names that are alike", x, Check.automata(x, "letters 1;auto ab states 1;auto ac states 1;auto a states 1"), 3);
    Check.answered(3, "names that are alike from behind", x, Check.automata(x, "letters 1;auto ab states 1;auto bb states 1;auto b states 2"), 3);
    Check.answered(6, "the third one", x, x.automaton(2, 0), 2);
    Check.answered(3, "the kept words as parts of names", x, Check.automata(x, "letters 1;auto edges states 1;auto tates states 1;auto autos states 1"), 3);
  }

  private static void toldOfAutomata() {
    OddRanks x = Check.with(Check.TWO);
    int[] what = {2, 1, 2, 4, 2};
    for (int k = 0; k < 5; k++) Check.answered(6, "automaton(1, " + k + ")", x, x.automaton(1, k), what[k]);
    int[][] none = {{-1, 0}, {2, 0}, {3, 0}, {Integer.MIN_VALUE, 0}, {0, -1}, {0, 5}, {0, Integer.MAX_VALUE}};
    for (int[] n : none) Check.refused(6, "automaton(" + n[0] + ", " + n[1] + ")", x, x.automaton(n[0], n[1]), 1);
    Check.answered(7, "edge(1, 0, 0, 1)", x, x.edge(1, 0, 0, 1), 1);
    Check.answered(7, "edge(1, 0, 1, 1)", x, x.edge(1, 0, 1, 1), 0);
    Check.answered(7, "edge(1, 1, 0, 0)", x, x.edge(1, 1, 0, 0), 0);
    int[][] off = {{2, 0, 0, 0}, {0, 2, 0, 0}, {0, -1, 0, 0}, {0, 0, 2, 0}, {0, 0, -1, 0}, {0, 0, 0, 2}, {0, 0, 0, -1}, {0, 32, 0, 0}, {0, 0, 0, 32}};
    for (int[] n : off) Check.refused(7, "edge of " + java.util.Arrays.toString(n), x, x.edge(n[0], n[1], n[2], n[3]), 1);
    int[][] after = {{0, 0, 0, 0}, {0, 1, 1, 2}, {0, 3, 0, 1}, {1, 1, 0, 3}, {1, 1, 1, 1}, {1, 2, 0, 2}, {1, 2, 1, 0}, {1, 3, 0, 3}};
    for (int[] n : after) Check.answered(8, "after of " + java.util.Arrays.toString(n), x, x.after(n[0], n[1], n[2]), n[3]);
    int[][] none8 = {{2, 0, 0, 1}, {-1, 9, 0, 1}, {0, 0, 2, 1}, {0, 9, -1, 1}, {0, 4, 0, 2}, {0, -1, 0, 2}, {0, Integer.MIN_VALUE, 0, 2}, {0, 16, 1, 2}};
    for (int[] n : none8) Check.refused(8, "after of " + java.util.Arrays.toString(n), x, x.after(n[0], n[1], n[2]), n[3]);
  }

  public static void main(String[] args) {
    newObject();
    tape();
    formFaults();
    otherFaults();
    goodTexts();
    toldOfAutomata();
    Check.end("TextTest");
  }
}
