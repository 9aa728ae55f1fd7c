import java.util.ArrayDeque;
import java.util.ArrayList;
import java.util.HashMap;
import java.util.HashSet;
import java.util.List;
import java.util.Map;
import java.util.NoSuchElementException;
import java.util.Set;
import java.util.TreeMap;
import java.util.TreeSet;

/**
 * The document a second time, with the whole Java library, slowly and by its definitions alone:
 * nothing is kept that can be worked out again. ModelTest holds OddRanks against it.
 */
final class Model {
  private static final class Refusal extends Exception {
    private static final long serialVersionUID = 1L;
    final int number;
    Refusal(int number) { this.number = number; }
  }

  private static final class Fault extends Exception {
    private static final long serialVersionUID = 1L;
    final int number;
    final int place;
    Fault(int number, int place) { this.number = number; this.place = place; }
  }

  private interface Call { int answer() throws Refusal; }

  private record Token(String text, int place) { }

  private record Arrow(int from, int letter, int to) { }

  private static final class Auto {
    final int states;
    final Set<Integer> starts = new TreeSet<>();
    final Set<Integer> finals = new TreeSet<>();
    final Set<Arrow> arrows = new HashSet<>();
    Auto(int states) { this.states = states; }
  }

  private record Lasso(List<Integer> stem, List<Integer> round) { }

  /** A SET has no ranks; ranks are by states, in their order. */
  private record Node(Set<Integer> set, TreeMap<Integer, Integer> ranks, Set<Integer> owes) {
    boolean isPair() { return ranks != null; }
    boolean isFinal() { return isPair() ? owes.isEmpty() : set.isEmpty(); }
    int greatest() { return ranks.values().stream().mapToInt(x -> x).max().getAsInt(); }
  }

  /** A graph that goes on by letters: nexts.get(v).get(letter) in order. */
  private static final class Net {
    final List<List<List<Integer>>> nexts = new ArrayList<>();
    final List<Boolean> marked = new ArrayList<>();
    final List<Integer> firsts = new ArrayList<>();
  }

  private final ArrayList<Integer> tape = new ArrayList<>();
  private List<Auto> autos = new ArrayList<>();
  private int letters;
  private int trouble;
  private int fault;
  private int where = -1;
  private int met;
  private Lasso shown;

  private int call(Call body) {
    try {
      int x = body.answer();
      trouble = 0;
      return x;
    } catch (Refusal r) {
      trouble = r.number;
      return -1;
    }
  }

  private static void need(boolean is, int number) throws Refusal {
    if (!is) throw new Refusal(number);
  }

  private Auto auto(int a) throws Refusal {
    need(a >= 0 && a < autos.size(), 1);
    return autos.get(a);
  }

  private void needLetter(int letter) throws Refusal { need(letter >= 0 && letter < letters, 1); }

  private static void needState(Auto x, int state) throws Refusal { need(state >= 0 && state < x.states, 1); }

  private static Set<Integer> set(Auto x, int bits) throws Refusal {
    need(bits >= 0 && bits < Math.pow(2, x.states), 2);
    Set<Integer> s = new TreeSet<>();
    for (int q = 0; q < x.states; q++) if ((bits & 1 << q) != 0) s.add(q);
    return s;
  }

  private static int bits(Set<Integer> s) {
    int b = 0;
    for (int q : s) b += 1 << q;
    return b;
  }

  // ---- texts

  int feed(int... numbers) {
    if (tape.size() + 20 > 400) return -1;
    for (int x : numbers) for (int k = 3; k >= 0; k--) tape.add((x >>> 8 * k) % 256);
    return tape.size();
  }

  private String text(int n) throws Refusal {
    need(n >= 0 && n <= tape.size(), 2);
    StringBuilder s = new StringBuilder();
    for (int i = 0; i < n; i++) s.append((char) (int) tape.get(i));
    tape.clear();
    return s.toString();
  }

  /** The tokens up to the end or to the first byte that begins none, which is one with the text "?". */
  private static List<Token> tokens(String text) {
    List<Token> found = new ArrayList<>();
    var matcher = java.util.regex.Pattern.compile("[a-z]+|[0-9]+|[^ ]").matcher(text);
    while (matcher.find()) {
      String t = matcher.group();
      boolean is = t.matches("[a-z]{1,7}|[0-9]|[;()]");
      found.add(new Token(is ? t : "?", matcher.start()));
      if (!is) return found;
    }
    found.add(new Token("", text.length()));
    return found;
  }

  private static int whole(Token t, int least, int most) throws Fault {
    if (!t.text.matches("[0-9]")) throw new Fault(1, t.place);
    int x = Integer.parseInt(t.text);
    if (x < least || x > most) throw new Fault(2, t.place);
    return x;
  }

  int automata(int n) {
    return call(() -> {
      String text = text(n);
      fault = 0;
      try {
        parse(new ArrayDeque<>(tokens(text)));
      } catch (Fault f) {
        fault = f.number;
        where = f.place;
        throw new Refusal(4);
      }
      return autos.size();
    });
  }

  private void parse(ArrayDeque<Token> line) throws Fault {
    int count = 0;
    List<Auto> read = new ArrayList<>();
    Set<String> names = new HashSet<>();
    while (true) {
      Token word = line.remove();
      Auto last = read.isEmpty() ? null : read.get(read.size() - 1);
      if (!Set.of("letters", "auto", "start", "final", "edge").contains(word.text)) throw new Fault(1, word.place);
      if (word.text.equals("letters")) {
        if (count != 0) throw new Fault(3, word.place);
        count = whole(line.remove(), 1, 3);
      } else if (count == 0) {
        throw new Fault(5, word.place);
      } else if (word.text.equals("auto")) {
        if (read.size() == 3) throw new Fault(4, word.place);
        Token name = line.remove();
        if (!name.text.matches("[a-z]+") || Set.of("letters", "auto", "states", "start", "final", "edge").contains(name.text)) throw new Fault(1, name.place);
        if (!names.add(name.text)) throw new Fault(3, name.place);
        Token states = line.remove();
        if (!states.text.equals("states")) throw new Fault(1, states.place);
        read.add(new Auto(whole(line.remove(), 1, 4)));
      } else if (last == null) {
        throw new Fault(5, word.place);
      } else if (word.text.equals("edge")) {
        int from = whole(line.remove(), 0, last.states - 1);
        Token letter = line.remove();
        int k = "abc".substring(0, count).indexOf(letter.text);
        if (letter.text.length() != 1 || k < 0) throw new Fault(1, letter.place);
        if (!last.arrows.add(new Arrow(from, k, whole(line.remove(), 0, last.states - 1)))) throw new Fault(3, word.place);
      } else {
        int q = whole(line.remove(), 0, last.states - 1);
        if (!(word.text.equals("start") ? last.starts : last.finals).add(q)) throw new Fault(3, word.place);
      }
      Token end = line.remove();
      if (end.text.isEmpty()) {
        if (read.isEmpty()) throw new Fault(5, end.place);
        autos = read;
        letters = count;
        return;
      }
      if (!end.text.equals(";")) throw new Fault(1, end.place);
    }
  }

  private Lasso lasso(String text) throws Refusal {
    fault = 0;
    try {
      List<List<Integer>> parts = List.of(new ArrayList<>(), new ArrayList<>());
      int part = 0;
      for (Token t : tokens(text)) {
        if (part < 2 && t.text.matches("[a-z]+")) {
          for (char c : t.text.toCharArray()) {
            if (c - 'a' >= letters) throw new Fault(1, t.place);
            parts.get(part).add(c - 'a');
            if (parts.get(part).size() > 10) throw new Fault(4, t.place);
          }
        } else if (t.text.equals("(") && part == 0) {
          part = 1;
        } else if (t.text.equals(")") && part == 1 && !parts.get(1).isEmpty()) {
          part = 2;
        } else if (!(t.text.isEmpty() && part == 2)) {
          throw new Fault(1, t.place);
        }
      }
      return new Lasso(parts.get(0), parts.get(1));
    } catch (Fault f) {
      fault = f.number;
      where = f.place;
      throw new Refusal(4);
    }
  }

  int fault() { return fault; }

  int where() { return trouble == 4 ? where : -1; }

  int size() { return tape.size(); }

  int trouble() { return trouble; }

  // ---- automata

  int automaton(int a, int what) {
    return call(() -> {
      Auto x = auto(a);
      need(what >= 0 && what <= 4, 1);
      return List.of(x.states, bits(x.starts), bits(x.finals), x.arrows.size(), letters).get(what);
    });
  }

  int edge(int a, int from, int letter, int to) {
    return call(() -> {
      Auto x = auto(a);
      needState(x, from);
      needState(x, to);
      needLetter(letter);
      return x.arrows.contains(new Arrow(from, letter, to)) ? 1 : 0;
    });
  }

  private static Set<Integer> after(Auto x, Set<Integer> from, int letter) {
    Set<Integer> to = new TreeSet<>();
    for (Arrow e : x.arrows) if (e.letter == letter && from.contains(e.from)) to.add(e.to);
    return to;
  }

  int after(int a, int set, int letter) {
    return call(() -> {
      Auto x = auto(a);
      needLetter(letter);
      return bits(after(x, set(x, set), letter));
    });
  }

  // ---- rankings

  private static void grow(Auto x, List<Integer> states, TreeMap<Integer, Integer> begun, int most, List<TreeMap<Integer, Integer>> all) {
    if (begun.size() == states.size()) {
      all.add(new TreeMap<>(begun));
      return;
    }
    int q = states.get(begun.size());
    for (int r = 0; r <= most; r++) {
      if (x.finals.contains(q) && r % 2 == 1) continue;
      begun.put(q, r);
      grow(x, states, begun, most, all);
      begun.remove(q);
    }
  }

  private static List<TreeMap<Integer, Integer>> tight(Auto x, Set<Integer> set, int greatest) {
    List<TreeMap<Integer, Integer>> all = new ArrayList<>();
    grow(x, new ArrayList<>(set), new TreeMap<>(), greatest, all);
    all.removeIf(f -> {
      for (int r = 1; r <= greatest; r += 2) if (!f.containsValue(r)) return true;
      return false;
    });
    return all;
  }

  int bound(int a, int set) {
    return call(() -> {
      Auto x = auto(a);
      Set<Integer> s = set(x, set);
      int best = -2;
      for (int r = 1; r <= 7; r += 2) if (!tight(x, s, r).isEmpty()) best = r;
      return best;
    });
  }

  private static void needRank(int rank) throws Refusal { need(Set.of(1, 3, 5, 7).contains(rank), 2); }

  int rankings(int a, int set, int rank) {
    return call(() -> {
      Auto x = auto(a);
      Set<Integer> s = set(x, set);
      needRank(rank);
      return tight(x, s, rank).size();
    });
  }

  int ranked(int a, int set, int rank, int i, int state) {
    return call(() -> {
      Auto x = auto(a);
      needState(x, state);
      Set<Integer> s = set(x, set);
      needRank(rank);
      var all = tight(x, s, rank);
      need(i >= 0 && i < all.size() && s.contains(state), 5);
      return all.get(i).get(state);
    });
  }

  // ---- the complement

  private static final Map<String, List<Object>> BUILT = new HashMap<>();

  /** The nodes in order and their net; the same automaton is built once only, to save time. */
  private List<Object> build(Auto x) throws Refusal {
    String key = x.states + " " + letters + " " + x.starts + x.finals + bitsOfArrows(x);
    if (!BUILT.containsKey(key)) {
      if (BUILT.size() > 200) BUILT.clear();
      BUILT.put(key, buildNew(x));
    }
    List<Object> built = BUILT.get(key);
    need(built != null, 3);
    return built;
  }

  private static String bitsOfArrows(Auto x) {
    Set<String> told = new TreeSet<>();
    for (Arrow e : x.arrows) told.add(e.toString());
    return told.toString();
  }

  private List<Object> buildNew(Auto x) {
    List<Node> nodes = new ArrayList<>();
    Map<Node, Integer> numbers = new HashMap<>();
    Net net = new Net();
    nodes.add(new Node(x.starts.isEmpty() ? Set.of() : new TreeSet<>(x.starts), null, Set.of()));
    numbers.put(nodes.get(0), 0);
    net.firsts.add(0);
    for (int v = 0; v < nodes.size(); v++) {
      List<List<Integer>> byLetters = new ArrayList<>();
      for (int letter = 0; letter < letters; letter++) {
        List<Integer> to = new ArrayList<>();
        for (Node w : nexts(x, nodes.get(v), letter)) {
          if (!numbers.containsKey(w)) {
            numbers.put(w, nodes.size());
            nodes.add(w);
          }
          to.add(numbers.get(w));
          if (nodes.size() > 300) return null;
        }
        byLetters.add(to);
      }
      net.nexts.add(byLetters);
      net.marked.add(nodes.get(v).isFinal());
    }
    return List.of(nodes, net);
  }

  private static List<Node> nexts(Auto x, Node v, int letter) {
    List<Node> to = new ArrayList<>();
    Set<Integer> t = after(x, v.set, letter);
    if (!v.isPair()) {
      to.add(new Node(t, null, Set.of()));
      if (!t.isEmpty()) for (int r = 1; r <= 7; r += 2) for (var f : tight(x, t, r)) to.add(new Node(t, f, Set.of()));
      return to;
    }
    for (var f : tight(x, t, v.greatest())) {
      boolean rises = false;
      for (Arrow e : x.arrows) if (e.letter == letter && v.set.contains(e.from) && f.get(e.to) > v.ranks.get(e.from)) rises = true;
      if (rises) continue;
      Set<Integer> owes = new TreeSet<>(v.owes.isEmpty() ? t : after(x, v.owes, letter));
      owes.removeIf(q -> f.get(q) % 2 == 1);
      to.add(new Node(t, f, owes));
    }
    return to;
  }

  @SuppressWarnings("unchecked")
  private List<Node> nodes(Auto x) throws Refusal { return (List<Node>) build(x).get(0); }

  private Net net(Auto x) throws Refusal { return (Net) build(x).get(1); }

  private static boolean below(Node p, Node q) {
    if (!p.isPair() || !q.isPair() || p.equals(q) || !p.set.equals(q.set) || p.greatest() != q.greatest()) return false;
    for (int state : p.set) if (p.ranks.get(state) > q.ranks.get(state)) return false;
    return p.owes.containsAll(q.owes);
  }

  int complement(int a) { return call(() -> nodes(auto(a)).size()); }

  private Node nodeOf(Auto x, int node) throws Refusal {
    List<Node> all = nodes(x);
    need(node < all.size(), 1);
    return all.get(node);
  }

  int node(int a, int node, int what) {
    return call(() -> {
      Auto x = auto(a);
      need(node >= 0 && what >= 0 && what <= 5, 1);
      Node v = nodeOf(x, node);
      switch (what) {
        case 0: return bits(v.set);
        case 1: return v.isPair() ? v.greatest() : -2;
        case 2: return bits(v.owes);
        case 3: return v.isFinal() ? 1 : 0;
        case 4: return net(x).nexts.get(node).stream().mapToInt(List::size).sum();
        default: return (int) nodes(x).stream().filter(w -> below(v, w)).count();
      }
    });
  }

  int rank(int a, int node, int state) {
    return call(() -> {
      Auto x = auto(a);
      need(node >= 0, 1);
      needState(x, state);
      Node v = nodeOf(x, node);
      return v.isPair() && v.set.contains(state) ? v.ranks.get(state) : -2;
    });
  }

  int next(int a, int node, int letter, int i) {
    return call(() -> {
      Auto x = auto(a);
      need(node >= 0 && i >= 0, 1);
      needLetter(letter);
      nodeOf(x, node);
      List<Integer> to = net(x).nexts.get(node).get(letter);
      return i < to.size() ? to.get(i) : -2;
    });
  }

  int nodes(int a, int what) {
    return call(() -> {
      Auto x = auto(a);
      need(what >= 0 && what <= 2, 1);
      List<Node> all = nodes(x);
      if (what == 0) return (int) all.stream().filter(v -> !v.isPair()).count();
      if (what == 1) return (int) all.stream().filter(Node::isFinal).count();
      return (int) all.stream().filter(v -> v.isPair() && all.stream().noneMatch(w -> below(v, w))).count();
    });
  }

  // ---- lassos

  private Net netOf(Auto x) {
    Net net = new Net();
    net.firsts.addAll(x.starts);
    for (int q = 0; q < x.states; q++) {
      net.marked.add(x.finals.contains(q));
      List<List<Integer>> to = new ArrayList<>();
      for (int letter = 0; letter < letters; letter++) to.add(new ArrayList<>(after(x, Set.of(q), letter)));
      net.nexts.add(to);
    }
    return net;
  }

  private static Set<Integer> step(Net net, Set<Integer> from, int letter) {
    Set<Integer> to = new HashSet<>();
    for (int v : from) to.addAll(net.nexts.get(v).get(letter));
    return to;
  }

  /** Taken if a marked place of the round can be come to and, from it, again. */
  private static boolean taken(Net net, List<Integer> stem, List<Integer> round) {
    Set<Integer> at = new HashSet<>(net.firsts);
    for (int letter : stem) at = step(net, at, letter);
    for (int v : closure(net, at, round)) {
      if (!net.marked.get(v / 100)) continue;
      int k = v % 100;
      List<Integer> turned = new ArrayList<>(round.subList(k, round.size()));
      turned.addAll(round.subList(0, k));
      Set<Integer> on = step(net, Set.of(v / 100), turned.get(0));
      if (round.size() == 1 ? closure(net, on, turned).contains(v / 100 * 100)
          : closureFrom(net, on, turned, 1).contains(v / 100 * 100)) return true;
    }
    return false;
  }

  private static Set<Integer> closure(Net net, Set<Integer> from, List<Integer> round) {
    return closureFrom(net, from, round, 0);
  }

  /** All (vertex * 100 + place in the round) that can be come to from vertices at one place. */
  private static Set<Integer> closureFrom(Net net, Set<Integer> from, List<Integer> round, int place) {
    Set<Integer> seen = new HashSet<>();
    ArrayDeque<Integer> open = new ArrayDeque<>();
    for (int v : from) if (seen.add(v * 100 + place)) open.add(v * 100 + place);
    while (!open.isEmpty()) {
      int v = open.remove();
      int k = (v % 100 + 1) % round.size();
      for (int w : net.nexts.get(v / 100).get(round.get(v % 100))) if (seen.add(w * 100 + k)) open.add(w * 100 + k);
    }
    return seen;
  }

  int takes(int a, int n) {
    return call(() -> {
      Auto x = auto(a);
      Lasso w = lasso(text(n));
      return taken(netOf(x), w.stem, w.round) ? 1 : 0;
    });
  }

  int lacks(int a, int n) {
    return call(() -> {
      Auto x = auto(a);
      Lasso w = lasso(text(n));
      build(x);
      return taken(netOf(x), w.stem, w.round) ? 0 : 1;
    });
  }

  int follows(int a, int rounds, int n) {
    return call(() -> {
      Auto x = auto(a);
      need(rounds >= 0 && rounds <= 20, 2);
      Lasso w = lasso(text(n));
      Set<Integer> at = x.starts;
      for (int letter : w.stem) at = after(x, at, letter);
      for (int k = 0; k < rounds; k++) for (int letter : w.round) at = after(x, at, letter);
      return bits(at);
    });
  }

  private static void words(int letters, int length, List<Integer> begun, List<List<Integer>> all) {
    if (begun.size() == length) {
      all.add(new ArrayList<>(begun));
      return;
    }
    for (int k = 0; k < letters; k++) {
      begun.add(k);
      words(letters, length, begun, all);
      begun.remove(begun.size() - 1);
    }
  }

  private int tally(Auto x, int stem, int round) {
    List<List<Integer>> stems = new ArrayList<>();
    List<List<Integer>> rounds = new ArrayList<>();
    words(letters, stem, new ArrayList<>(), stems);
    words(letters, round, new ArrayList<>(), rounds);
    int n = 0;
    for (var s : stems) for (var r : rounds) if (taken(netOf(x), s, r)) n++;
    return n;
  }

  private static void needLengths(int stem, int round) throws Refusal {
    need(stem >= 0 && stem <= 3 && round >= 1 && round <= 3, 2);
  }

  int counts(int a, int stem, int round) {
    return call(() -> {
      Auto x = auto(a);
      needLengths(stem, round);
      return tally(x, stem, round);
    });
  }

  int others(int a, int stem, int round) {
    return call(() -> {
      Auto x = auto(a);
      needLengths(stem, round);
      build(x);
      return (int) Math.pow(letters, stem + round) - tally(x, stem, round);
    });
  }

  // ---- empty, all, within

  /** The vertices in the order in which they are met, each with the letters of its way. */
  private static Map<Integer, List<Integer>> queue(Net net, List<Integer> firsts) {
    Map<Integer, List<Integer>> ways = new java.util.LinkedHashMap<>();
    ArrayDeque<Integer> open = new ArrayDeque<>();
    for (int v : firsts) if (ways.putIfAbsent(v, List.of()) == null) open.add(v);
    while (!open.isEmpty()) {
      int v = open.remove();
      for (int letter = 0; letter < net.nexts.get(v).size(); letter++) {
        for (int w : net.nexts.get(v).get(letter)) {
          if (ways.containsKey(w)) continue;
          List<Integer> way = new ArrayList<>(ways.get(v));
          way.add(letter);
          ways.put(w, way);
          open.add(w);
        }
      }
    }
    return ways;
  }

  /** Of the ways back to v the one met first: from the first met that goes to it, by its first letter that does. */
  private static List<Integer> back(Net net, int v) {
    for (var way : queue(net, List.of(v)).entrySet()) {
      for (int letter = 0; letter < net.nexts.get(v).size(); letter++) {
        if (net.nexts.get(way.getKey()).get(letter).contains(v)) {
          List<Integer> round = new ArrayList<>(way.getValue());
          round.add(letter);
          return round;
        }
      }
    }
    return null;
  }

  private int show(Net net) {
    shown = null;
    for (var way : queue(net, net.firsts).entrySet()) {
      if (!net.marked.get(way.getKey())) continue;
      List<Integer> round = back(net, way.getKey());
      if (round == null) continue;
      shown = new Lasso(way.getValue(), round);
      return 0;
    }
    return 1;
  }

  int empty(int a) { return call(() -> show(netOf(auto(a)))); }

  int all(int a) { return call(() -> show(net(auto(a)))); }

  int within(int a, int b) {
    return call(() -> {
      Auto x = auto(a);
      Auto y = auto(b);
      Net other = net(y);
      Net one = netOf(x);
      Net net = new Net();
      List<List<Integer>> threes = new ArrayList<>();
      Map<List<Integer>, Integer> numbers = new HashMap<>();
      for (int q : x.starts) {
        net.firsts.add(threes.size());
        numbers.put(List.of(q, 0, 0), threes.size());
        threes.add(List.of(q, 0, 0));
      }
      for (int v = 0; v < threes.size(); v++) {
        int q = threes.get(v).get(0);
        int node = threes.get(v).get(1);
        int mark = threes.get(v).get(2);
        int then = mark == 0 && x.finals.contains(q) ? 1 : mark == 1 && other.marked.get(node) ? 0 : mark;
        List<List<Integer>> byLetters = new ArrayList<>();
        for (int letter = 0; letter < letters; letter++) {
          List<Integer> to = new ArrayList<>();
          for (int p : one.nexts.get(q).get(letter)) {
            for (int m : other.nexts.get(node).get(letter)) {
              List<Integer> three = List.of(p, m, then);
              if (!numbers.containsKey(three)) {
                numbers.put(three, threes.size());
                threes.add(three);
              }
              to.add(numbers.get(three));
            }
          }
          byLetters.add(to);
        }
        net.nexts.add(byLetters);
        net.marked.add(mark == 1 && other.marked.get(node));
        need(threes.size() <= 1000, 3);
      }
      met = threes.size();
      return show(net);
    });
  }

  int met() { return met; }

  /** No call of the face: tells the test how many letters there are, and leaves the trouble alone. */
  int lettersShown() {
    return shown == null ? 0 : shown.stem.size() + shown.round.size();
  }

  int shown(int what) {
    return call(() -> {
      need(what == 0 || what == 1, 1);
      if (shown == null) return -2;
      return (what == 0 ? shown.stem : shown.round).size();
    });
  }

  int letter(int i) {
    if (shown == null || i < 0 || i >= shown.stem.size() + shown.round.size()) throw new NoSuchElementException();
    return i < shown.stem.size() ? shown.stem.get(i) : shown.round.get(i - shown.stem.size());
  }

  // ---- acts

  int link(int a, int from, int letter, int to, boolean is) {
    return call(() -> {
      Auto x = auto(a);
      needState(x, from);
      needLetter(letter);
      needState(x, to);
      Arrow e = new Arrow(from, letter, to);
      need(is ? x.arrows.add(e) : x.arrows.remove(e), 5);
      return x.arrows.size();
    });
  }

  private int put(int a, int state, boolean is, boolean isFinal) {
    return call(() -> {
      Auto x = auto(a);
      needState(x, state);
      Set<Integer> s = isFinal ? x.finals : x.starts;
      need(is ? s.add(state) : s.remove(state), 5);
      return bits(s);
    });
  }

  int mark(int a, int state, boolean is) { return put(a, state, is, true); }

  int begin(int a, int state, boolean is) { return put(a, state, is, false); }
}
