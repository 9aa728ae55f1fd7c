/** Terms I, sentence by sentence: the tape, tokens, the text of automata, the lasso, with their bounds and faults. */
public final class TextEdgesTest {
  private static final String A = "letters 2;auto x states 2";

  private static void good(String text, int automata) {
    OddRanks x = new OddRanks();
    Check.answered(3, "automata of " + text, x, Check.automata(x, text), automata);
    Check.due(4, "fault() of " + text, x.fault(), 0);
    Check.due(31, "size() behind " + text, x.size(), 0);
  }

  private static void bad(String text, int fault, int place) {
    OddRanks x = new OddRanks();
    Check.refused(3, "automata of " + text, x, Check.automata(x, text), 4);
    Check.due(4, "fault() of " + text, x.fault(), fault);
    Check.due(5, "where() of " + text, x.where(), place);
    Check.due(31, "size() behind " + text, x.size(), 0);
    Check.refused(3, "no AUTOMATON behind " + text, x, x.automaton(0, 0), 1);
  }

  /** Taken by an automaton that takes all, and told by its states behind the stem and behind the round. */
  private static void goodLasso(int letters, String text) {
    OddRanks x = Check.with("letters 3;auto x states 1;start 0;final 0;edge 0a0;edge 0b0;edge 0c0".replace("letters 3", "letters " + letters)
        .replace(letters < 3 ? ";edge 0c0" : "~", "").replace(letters < 2 ? ";edge 0b0" : "~", ""));
    Check.answered(17, "takes of " + text, x, Check.takes(x, 0, text), 1);
    Check.answered(18, "lacks of " + text, x, Check.lacks(x, 0, text), 0);
    Check.answered(19, "follows of " + text, x, Check.follows(x, 0, 20, text), 1);
    Check.due(4, "fault() of " + text, x.fault(), 0);
    Check.due(31, "size() behind " + text, x.size(), 0);
  }

  private static void badLasso(int letters, String text, int fault, int place) {
    for (int kind = 0; kind < 3; kind++) {
      OddRanks x = Check.with("letters " + letters + ";auto x states 1;start 0;final 0;edge 0a0");
      int got = kind == 0 ? Check.takes(x, 0, text) : kind == 1 ? Check.lacks(x, 0, text) : Check.follows(x, 0, 0, text);
      Check.refused(17 + kind, "the lasso " + text, x, got, 4);
      Check.due(4, "fault() of " + text, x.fault(), fault);
      Check.due(5, "where() of " + text, x.where(), place);
      Check.due(31, "size() behind " + text, x.size(), 0);
    }
  }

  /** What stands behind the first n bytes is on the tape, too, and must not be looked at. */
  private static void cut(String read, String behind, int automata, int fault) {
    OddRanks x = new OddRanks();
    Check.put(x, read + behind);
    int got = x.automata(read.length());
    if (fault == 0) Check.answered(3, "automata of " + read + " ahead of " + behind, x, got, automata);
    else Check.refused(3, "automata of " + read + " ahead of " + behind, x, got, 4);
    Check.due(4, "fault() of " + read + " ahead of " + behind, x.fault(), fault);
    Check.due(5, "where() of " + read + " ahead of " + behind, x.where(), fault == 0 ? -1 : read.length());
  }

  private static void cutLasso(String read, String behind, int fault) {
    OddRanks x = Check.with("letters 2;auto x states 1;start 0;final 0;edge 0a0;edge 0b0");
    Check.put(x, read + behind);
    int got = x.takes(0, read.length());
    if (fault == 0) Check.answered(17, "takes of " + read + " ahead of " + behind, x, got, 1);
    else Check.refused(17, "takes of " + read + " ahead of " + behind, x, got, 4);
    Check.due(4, "fault() of " + read + " ahead of " + behind, x.fault(), fault);
    Check.due(5, "where() of " + read + " ahead of " + behind, x.where(), fault == 0 ? -1 : read.length());
  }

  private static void cuts() {
    Check.says("The first n bytes of THE TAPE (it is empty then) are the AUTOMATA from now on: how many");
    for (String behind : new String[] {"", " ", "0", "1", "a", "abcdefg", ";", "#", "(", " 1", ";auto y states 1", ";letters 1"}) {
      cut("letters 1", behind, 0, 5);
      cut("letters 1;auto x states 1", behind, 1, 0);
      cut("letters 1;auto x states 1;start 0", behind, 1, 0);
      cut("letters 1;auto x states 1;edge 0a0", behind, 1, 0);
      cut("letters", behind, 0, 1);
      cut("letters 1;auto", behind, 0, 1);
      cut("letters 1;auto abcdefg", behind, 0, 1);
      cut("letters 1;auto x states", behind, 0, 1);
      cut("letters 1;auto x states 1;start", behind, 0, 1);
      cut("letters 1;auto x states 1;edge 0a", behind, 0, 1);
      cut("letters 1;auto x states 1;", behind, 0, 1);
      cut("", behind, 0, 1);
    }
    Check.says("The first n bytes of THE TAPE (it is empty then) are a LASSO");
    for (String behind : new String[] {"", " ", "a", "aaaaaaa", "c", "0", ")", "(b)", "#"}) {
      cutLasso("a(b)", behind, 0);
      cutLasso("a(b", behind, 1);
      cutLasso("a(", behind, 1);
      cutLasso("aaaaaaa bbb", behind, 1);
      cutLasso("(aaaaaaa bbb", behind, 1);
      cutLasso("aaaaaaa", behind, 1);
      cutLasso("", behind, 1);
    }
  }

  private static String blanks(int n) {
    return " ".repeat(n);
  }

  private static void tape() {
    Check.says("THE TAPE has 400 bytes");
    String head = "letters 1;auto x states 1;start";
    good(head + blanks(399 - head.length()) + "0", 1);
    bad(head + blanks(399 - head.length()) + "1", 2, 399);
    bad(head + blanks(400 - head.length()), 1, 400);
    bad("letters 1" + blanks(391), 5, 400);
    goodLasso(1, "(" + blanks(397) + "a)");
    badLasso(1, "(a" + blanks(398), 1, 400);
    Check.says("blanks, 32, part TOKENS and mean nothing else");
    good("  letters   1  ;  auto  x  states  1  ", 1);
    good("letters1;auto x states1;start0;edge0a0", 1);
    bad("let ters 1", 1, 0);
    bad("letters 1;auto x sta tes 1", 1, 17);
    bad("letters 1 1", 1, 10);
    for (int sign : new int[] {0, 1, 9, 10, 13, 31, 33, 127, 128, 160, 255}) {
      bad("letters 1" + (char) sign + ";auto x states 1", 1, 9);
      badLasso(1, "(a" + (char) sign + ")", 1, 2);
    }
    goodLasso(2, "  a  b  (  b  a  )  ");
  }

  private static void tokens() {
    Check.says("WORDS of 1 to 7 small letters that stand together");
    good("letters 1;auto a states 1", 1);
    good("letters 1;auto z states 1", 1);
    good("letters 1;auto abcdefg states 1", 1);
    good("letters 1;auto tuvwxyz states 1", 1);
    bad("letters 1;auto abcdefgh states 1", 1, 15);
    bad("letters 1;auto abcdefghijklmno states 1", 1, 15);
    bad("lettersa 1", 1, 0);
    for (int sign : new int[] {'`', '{', 'A', 'Z', '@', '[', '_', 'a' + 128, 'z' + 128}) {
      bad("letters 1;auto " + (char) sign + " states 1", 1, 15);
      bad("letters 1;auto q" + (char) sign + " states 1", 1, 16);
    }
    Check.says("WHOLES of 1 digit that do");
    bad("letters 9", 2, 8);
    bad("letters 01", 1, 8);
    bad("letters 10", 1, 8);
    bad("letters 123", 1, 8);
    bad("letters /", 1, 8);
    bad("letters :", 1, 8);
    bad("letters -1", 1, 8);
    bad("letters 1/", 1, 9);
    bad("letters 1:", 1, 9);
    bad("letters 1;auto x1 states 1", 1, 16);
    Check.says("single ones of ; ( )");
    bad("letters 1;;auto x states 1", 1, 10);
    bad("letters 1(", 1, 9);
    bad("letters 1)", 1, 9);
    bad("letters 1,", 1, 9);
    bad("letters (1)", 1, 8);
    badLasso(1, "((a)", 1, 1);
    badLasso(1, "(a))", 1, 3);
    badLasso(1, "(a);", 1, 3);
    badLasso(1, ";(a)", 1, 0);
  }

  private static void lines() {
    Check.says("LINE {; LINE}");
    bad("", 1, 0);
    bad(" ", 1, 1);
    bad(";", 1, 0);
    bad(";letters 1", 1, 0);
    bad("letters 1;", 1, 10);
    bad("letters 1;auto x states 1;", 1, 26);
    bad("letters 1;auto x states 1; ", 1, 27);
    bad("letters 1 auto x states 1", 1, 10);
    bad("letters 1;auto x states 1 start 0", 1, 26);
    good("letters 1;auto x states 1", 1);
    Check.says("letters WHOLE (1 .. 3: a, b, c)");
    bad("letters 0", 2, 8);
    bad("letters 4", 2, 8);
    bad("letters a", 1, 8);
    bad("letters ;", 1, 8);
    bad("letters", 1, 7);
    for (int n = 1; n <= 3; n++) {
      String head = "letters " + n + ";auto x states 1;edge 0";
      good(head + (char) ('a' + n - 1) + "0", 1);
      bad(head + (char) ('a' + n) + "0", 1, 32);
      bad(head + "z0", 1, 32);
      OddRanks x = Check.with(head + "a0");
      Check.answered(6, "letters", x, x.automaton(0, 4), n);
    }
    Check.says("ahead of all others");
    bad("auto x states 1;letters 1", 5, 0);
    bad(" start 0;letters 1", 5, 1);
    Check.says("STATES 0 .. 1 less, 1 .. 4 of them");
    bad("letters 1;auto x states 0", 2, 24);
    bad("letters 1;auto x states 5", 2, 24);
    for (int n = 1; n <= 4; n++) {
      String head = "letters 1;auto x states " + n;
      for (String line : new String[] {";start ", ";final ", ";edge 0a", ";edge "}) {
        String end = line.equals(";edge ") ? "a0" : "";
        good(head + line + "0" + end, 1);
        good(head + line + (n - 1) + end, 1);
        bad(head + line + n + end, 2, 25 + line.length());
        bad(head + line + 9 + end, 2, 25 + line.length());
      }
    }
    bad("letters 1;auto x states", 1, 23);
    bad("letters 1;auto x states;", 1, 23);
    bad("letters 1;auto x states a", 1, 24);
    bad("letters 1;auto x 1", 1, 17);
    bad("letters 1;auto x", 1, 16);
    bad("letters 1;auto states 1", 1, 15);
  }

  private static void names() {
    Check.says("up to 3");
    String three = "letters 1;auto x states 1;auto y states 1;auto z states 1";
    good(three, 3);
    bad(three + ";auto w states 1", 4, 58);
    Check.says("NAMES are WORDS but letters, auto, states, start, final, edge");
    for (String word : new String[] {"letters", "auto", "states", "start", "final", "edge"}) {
      bad("letters 1;auto " + word + " states 1", 1, 15);
      good("letters 1;auto " + word.substring(1) + " states 1", 1);
      good("letters 1;auto " + word.substring(0, word.length() - 1) + " states 1", 1);
      good("letters 1;auto " + (word.substring(1) + "x") + " states 1", 1);
    }
    for (String word : new String[] {"letters", "auto", "states", "start", "final", "edge"}) {
      for (int k = 0; k < word.length(); k++) {
        String other = word.substring(0, k) + "q" + word.substring(k + 1);
        good("letters 1;auto " + other + " states 1", 1);
        bad("letters 1;" + other + " 1", 1, 10);
        bad("letters 1;auto x states 1;" + other + " 0", 1, 26);
        bad("letters 1;auto x " + other + " 1", 1, 17);
        bad(other + " 1", 1, 0);
      }
    }
    bad("letters 1;auto 1 states 1", 1, 15);
    bad("letters 1;auto ; states 1", 1, 15);
    bad("letters 1;auto ( states 1", 1, 15);
    Check.says("each told once");
    bad("letters 1;auto x states 1;auto x states 1", 3, 31);
    bad("letters 1;auto x states 1;auto y states 1;auto x states 1", 3, 47);
    bad("letters 1;auto x states 1;auto y states 1;auto y states 1", 3, 47);
    good("letters 1;auto xy states 1;auto x states 1;auto xyz states 1", 3);
    for (int n = 1; n <= 7; n++) {
      String name = "abcdefg".substring(0, n);
      bad("letters 1;auto " + name + " states 1;auto " + name + " states 1", 3, 30 + n);
      bad("letters 1;auto q states 1;auto " + name + " states 1;auto " + name + " states 1", 3, 46 + n);
      for (int k = 0; k < n; k++) {
        good("letters 1;auto " + name + " states 1;auto " + name.substring(0, k) + "z" + name.substring(k + 1) + " states 1", 2);
      }
    }
    good("letters 1;auto xa states 1;auto xb states 1;auto ab states 1", 3);
  }

  private static void parts() {
    Check.says("start WHOLE | final WHOLE | edge WHOLE LETTER WHOLE");
    for (String line : new String[] {";start", ";final", ";edge"}) {
      int at = 25 + line.length();
      bad(A + line, 1, at);
      bad(A + line + ";", 1, at);
      bad(A + line + " a", 1, at + 1);
      bad(A + line + " 00", 1, at + 1);
    }
    bad(A + ";start 0 0", 1, 34);
    bad(A + ";edge 0", 1, 32);
    bad(A + ";edge 0 1", 1, 33);
    bad(A + ";edge 0 a", 1, 34);
    bad(A + ";edge 0 a a", 1, 35);
    bad(A + ";edge 0 a;", 1, 34);
    bad(A + ";edge 0 a 1 1", 1, 37);
    bad(A + ";edge 0 ab 1", 1, 33);
    bad(A + ";edge 0 a b 1", 1, 35);
    bad(A + ";edge 0 c 1", 1, 33);
    bad(A + ";edge 0 ( 1", 1, 33);
    Check.says("of the latest AUTOMATON ahead: a STATE in which it may begin, that is FINAL, an EDGE");
    good("letters 1;auto x states 1;auto y states 4;start 3;final 3;edge 3a3", 2);
    bad("letters 1;auto x states 4;auto y states 1;start 3", 2, 48);
    bad("letters 1;auto x states 4;auto y states 1;final 3", 2, 48);
    bad("letters 1;auto x states 4;auto y states 1;edge 3a0", 2, 47);
    bad("letters 1;auto x states 4;auto y states 1;edge 0a3", 2, 49);
    OddRanks x = Check.with("letters 1;auto x states 2;auto y states 2;start 0;final 1;edge 0a1;auto z states 2");
    for (int a = 0; a < 3; a++) {
      Check.answered(6, "of " + a + " where it may begin", x, x.automaton(a, 1), a == 1 ? 1 : 0);
      Check.answered(6, "of " + a + " FINAL", x, x.automaton(a, 2), a == 1 ? 2 : 0);
      Check.answered(6, "of " + a + " EDGES", x, x.automaton(a, 3), a == 1 ? 1 : 0);
    }
    Check.says("each told once");
    good(A + ";start 0;final 0;edge 0a0;edge 0b0;edge 0a1;edge 1a0;start 1;final 1", 1);
    good(A + ";start 0;final 0;edge 0a0;auto y states 1;start 0;final 0;edge 0a0", 2);
    bad(A + ";start 0;start 1;start 0", 3, 42);
    bad(A + ";final 0;final 1;final 0", 3, 42);
    bad(A + ";edge 0b1;edge 0a1;edge 0b1", 3, 44);
  }

  private static void order() {
    Check.says("FAULTS, the first that is met from the left");
    bad("letters 4;;", 2, 8);
    bad("letters 4;letters 4", 2, 8);
    bad("letters 2;;letters", 1, 10);
    bad("letters 2;start 9@", 5, 10);
    bad("letters 2;auto x states 5;@", 2, 24);
    bad("letters 2;auto x states 1;auto x states 5", 3, 31);
    bad("letters 2;auto x states 1;auto y states 5;auto x", 2, 40);
    bad(A + ";start 2;start 2", 2, 32);
    bad(A + ";edge 2 c 2", 2, 31);
    bad(A + ";edge 0 c 2", 1, 33);
    Check.says("of one place the least number");
    bad("", 1, 0);
    bad("letters 2;", 1, 10);
    bad("letters ", 1, 8);
    badLasso(2, "aaaaaaa aaac(a)", 1, 8);
    badLasso(2, "(aaaaaaa aaa c)", 1, 13);
    Check.says("1 FORM: the first byte that begins no TOKEN (two digits together, too: at the first)");
    bad("letters 2;auto x states 12", 1, 24);
    bad(A + ";start 10", 1, 32);
    bad(A + ";edge 00a0", 1, 31);
    bad(A + ";edge 0a01", 1, 33);
    bad("12", 1, 0);
    bad("letters 2;#", 1, 10);
    bad("letters 2;auto #", 1, 15);
    bad("letters 2;auto x #", 1, 17);
    bad("letters 2;auto x states #", 1, 24);
    bad(A + "#", 1, 25);
    bad(A + ";edge 0#", 1, 32);
    bad(A + ";edge 0a#", 1, 33);
    Check.says("or TOKEN with which no TEXT goes on (the end: its place; a LETTER that there isn't, too)");
    bad("states 1", 1, 0);
    bad("x", 1, 0);
    bad("1", 1, 0);
    bad("letters 2;states 1", 1, 10);
    bad("letters 2;x", 1, 10);
    bad("letters 2;auto", 1, 14);
    bad("letters 2;auto  ", 1, 16);
    bad("letters 2;auto x start 1", 1, 17);
    bad("letters letters", 1, 8);
  }

  private static void otherFaults() {
    Check.says("2 a WHOLE out of bounds (no such STATE); at it");
    bad("letters   0", 2, 10);
    bad(A + ";final 2", 2, 32);
    bad(A + ";edge 1 a 2", 2, 35);
    Check.says("3 AGAIN: a NAME told again, at it");
    bad("letters 1;auto x states 1;auto   x", 3, 33);
    bad("letters 1;auto x states 1;auto x #", 3, 31);
    Check.says("a second letters, at that WORD (at once, whatever follows)");
    for (String behind : new String[] {"", " ", " 1", " 9", " 12", ";", " x", " #", " letters", "1;auto x states 1"}) {
      bad("letters 1;letters" + behind, 3, 10);
      bad("letters 1;auto x states 1;  letters" + behind, 3, 28);
    }
    Check.says("a start, final, edge told again, at that WORD (asked as its last WHOLE ends)");
    for (String line : new String[] {"start 0", "final 0", "edge 0a0"}) {
      int at = 27 + line.length();
      bad(A + ";" + line + ";" + line, 3, at);
      bad(A + ";" + line + ";  " + line, 3, at + 2);
      bad(A + ";" + line + ";" + line + " 1", 3, at);
      bad(A + ";" + line + ";" + line + "#", 3, at);
      bad(A + ";" + line + ";" + line + "x", 3, at);
      bad(A + ";" + line + ";" + line + "0", 1, at + line.length() - 1);
      bad(A + ";" + line + ";" + line.substring(0, line.length() - 1), 1, at + line.length() - 1);
      bad(A + ";" + line + ";" + line.substring(0, line.length() - 1) + "9", 2, at + line.length() - 1);
      bad(A + ";" + line + ";" + line.substring(0, line.length() - 1) + "#", 1, at + line.length() - 1);
    }
    Check.says("4 MANY: a fourth AUTOMATON, at its WORD");
    String three = "letters 1;auto x states 1;auto y states 1;auto z states 1;";
    for (String behind : new String[] {"", " w states 1", " x states 1", " auto", " 1", "#", ";", " w states 9"}) bad(three + " auto" + behind, 4, 59);
    bad(three + "autos", 1, 58);
    Check.says("5 LACKS: a LINE ahead of letters");
    for (String behind : new String[] {"", " 0", " x states 1", "#", ";", " 99", " a"}) {
      for (String word : new String[] {"auto", "start", "final", "edge"}) bad("  " + word + behind, 5, 2);
    }
    Check.says("a start, final, edge ahead of all AUTOMATA, at its WORD");
    for (String behind : new String[] {"", " 0", " 9", "#", ";", " 0a0", ";auto x states 1"}) {
      for (String word : new String[] {"start", "final", "edge"}) bad("letters 3; " + word + behind, 5, 11);
    }
    Check.says("at the end: no AUTOMATON");
    bad("letters 3", 5, 9);
    bad("letters 1   ", 5, 12);
  }

  private static void lassos() {
    Check.says("A LASSO: {LETTER} ( LETTER {LETTER} )");
    goodLasso(1, "(a)");
    goodLasso(1, "a(a)");
    goodLasso(1, "(aa)");
    for (int n = 1; n <= 3; n++) {
      String last = String.valueOf((char) ('a' + n - 1));
      String none = String.valueOf((char) ('a' + n));
      goodLasso(n, last + "(" + last + ")");
      badLasso(n, none + "(a)", 1, 0);
      badLasso(n, "a(" + none + ")", 1, 2);
      badLasso(n, "z(a)", 1, 0);
    }
    badLasso(2, "", 1, 0);
    badLasso(2, "   ", 1, 3);
    badLasso(2, "ab", 1, 2);
    badLasso(2, "ab  ", 1, 4);
    badLasso(2, "(", 1, 1);
    badLasso(2, "()", 1, 1);
    badLasso(2, "ab()", 1, 3);
    badLasso(2, "ab( )", 1, 4);
    badLasso(2, "(ab", 1, 3);
    badLasso(2, ")", 1, 0);
    badLasso(2, "a)", 1, 1);
    badLasso(2, "(a(b))", 1, 2);
    badLasso(2, "(a)(b)", 1, 3);
    badLasso(2, "(a)b", 1, 3);
    badLasso(2, "(a) 1", 1, 4);
    badLasso(2, "(a)#", 1, 3);
    badLasso(2, "1(a)", 1, 0);
    badLasso(2, "(1)", 1, 1);
    badLasso(2, "(a 12)", 1, 3);
    badLasso(2, "letters 2", 1, 0);
    Check.says("each of 10 letters at most");
    goodLasso(2, "aaaaa bbbbb(bbbbb aaaaa)");
    badLasso(2, "aaaaa bbbbb a(a)", 4, 12);
    badLasso(2, "(aaaaa bbbbb a)", 4, 13);
    badLasso(2, "aaaaa bbbbb(aaaaa bbbbb b)", 4, 24);
    goodLasso(2, "a b a b a b a b a b(b a b a b a b a b a)");
    Check.says("letters may stand together or apart");
    goodLasso(2, "aaaaaaa bbb(abababa ba b)");
    badLasso(2, "aaaaaaaa(a)", 1, 0);
    badLasso(2, "(aaaaaaaa)", 1, 1);
    OddRanks x = Check.with("letters 2;auto x states 4;start 0;edge 0a1;edge 1b2;edge 2a3");
    for (String text : new String[] {"aba(a)", "a ba(a)", "ab a(a)", "a b a ( a ) "}) Check.answered(19, "follows of " + text, x, Check.follows(x, 0, 0, text), 8);
    Check.says("4 at the WORD of which a letter is the eleventh");
    badLasso(2, "aaaaaaa aaaaaaa(a)", 4, 8);
    badLasso(2, "aaaaaaa aaaa(a)", 4, 8);
    badLasso(2, "aaaaaaa aaa aa a(a)", 4, 12);
    badLasso(2, "(aaaaaaa aaaaaaa)", 4, 9);
    badLasso(2, "aaaaaaa aaaa", 4, 8);
    badLasso(2, "(aaaaaaa aaaa#", 4, 9);
    badLasso(2, "aaaaaaa aaa aaaaaaaa(a)", 1, 12);
    Check.says("asked letter by letter, a LETTER that there isn't: 1 at that WORD");
    badLasso(2, "abc(a)", 1, 0);
    badLasso(2, "ab aabca(a)", 1, 3);
    badLasso(2, "aaaaaaa aaca(a)", 1, 8);
    badLasso(2, "aaaaaaa aaac(a)", 1, 8);
    badLasso(2, "aaaaaaa aaaac(a)", 4, 8);
    badLasso(2, "(aaaaaaa aaaac)", 4, 9);
  }

  public static void main(String[] args) {
    tape();
    cuts();
    tokens();
    lines();
    names();
    parts();
    order();
    otherFaults();
    lassos();
    Check.end("TextEdgesTest");
  }
}
