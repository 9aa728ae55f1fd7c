import java.lang.management.ManagementFactory;

/**
 * All calls of one run live in one room of 600,000 objects and 7.3 million elements. Of each kind of call 512 on a new
 * object, with the widest automata that have room, make at most a small part of that; a new object alone still less.
 */
public final class RoomTest {
  private static final String WIDEST = "letters 3;auto x states 4;edge 0a1;edge 0a2;edge 0c0;edge 0c2;edge 1a1;edge 1c1;start 2;edge 2a3;edge 2b0"
      + ";edge 2b1;edge 2b2;edge 2b3;edge 2c0;final 3;edge 3a0;edge 3a3;edge 3c3;auto y states 1;start 0;final 0;edge 0a0;edge 0b0;edge 0c0";
  private static final long MOST_BYTES = 500_000;
  private static final long MOST_BYTES_NEW = 16_000;

  private static int wrong;

  private static long made() {
    return ((com.sun.management.ThreadMXBean) ManagementFactory.getThreadMXBean()).getThreadAllocatedBytes(Thread.currentThread().getId());
  }

  private static void call(OddRanks x, int kind, int k) {
    switch (kind) {
      case 0: x.feed(k, k, k, k, k); break;
      case 1: Check.automata(x, "letters"); break;
      case 2: x.rankings(0, 15, 3); break;
      case 3: x.ranked(0, 15, 5, 107, 3); break;
      case 4: x.link(0, 3, 0, 3, k % 2 == 1); x.complement(0); break;
      case 5: x.nodes(0, 2); break;
      case 6: Check.lacks(x, 0, "abcabca bca(abcabca bca)"); break;
      case 7: x.others(0, 3, 3); break;
      case 8: x.counts(1, 3, 3); break;
      case 9: x.all(k % 2); break;
      case 10: x.within(1, k % 2); break;
      case 11: x.empty(1); break;
      default: x.within(0, 1); x.shown(0); x.next(0, k, k % 3, k); x.node(0, k, 5); break;
    }
  }

  public static void main(String[] args) {
    Check.due(12, "complement(0)", Check.with(WIDEST).complement(0), 292); // what is made as classes are loaded is not the program's
    long before = made();
    OddRanks first = new OddRanks();
    long alone = made() - before;
    if (args.length > 0) System.out.println("a new object: " + alone + " bytes");
    if (alone > MOST_BYTES_NEW) {
      wrong++;
      System.out.println("RoomTest: a new object makes " + alone + " bytes");
    }
    Check.due(1, "size()", first.size(), 0);
    for (int kind = 0; kind <= 12; kind++) {
      OddRanks x = Check.with(WIDEST);
      before = made();
      for (int k = 0; k < 512; k++) call(x, kind, k);
      long bytes = made() - before;
      if (bytes > MOST_BYTES) {
        wrong++;
        System.out.println("RoomTest: 512 calls of kind " + kind + " make " + bytes + " bytes");
      }
      if (args.length > 0) System.out.println("kind " + kind + ": " + bytes + " bytes");
    }
    System.out.println(wrong == 0 ? "RoomTest: all is as due" : "RoomTest: " + wrong + " kinds of calls make too much");
    if (wrong != 0) System.exit(1);
    Check.end("RoomTest");
  }
}
