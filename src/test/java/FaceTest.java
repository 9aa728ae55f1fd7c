import java.lang.reflect.Constructor;
import java.lang.reflect.Field;
import java.lang.reflect.Method;
import java.lang.reflect.Modifier;
import java.nio.file.Files;
import java.nio.file.Path;
import java.util.ArrayList;
import java.util.Arrays;
import java.util.HashSet;
import java.util.List;
import java.util.Set;
import java.util.TreeSet;
import java.util.regex.Matcher;
import java.util.regex.Pattern;

/** The public face as the document tells it, and the rules of LANGUAGE.md that can be seen from outside or in the source. */
public final class FaceTest {
  private static final String[] FACE = {"feed(int,int,int,int,int)", "automata(int)", "fault()", "where()", "automaton(int,int)",
      "edge(int,int,int,int)", "after(int,int,int)", "bound(int,int)", "rankings(int,int,int)", "ranked(int,int,int,int,int)",
      "complement(int)", "node(int,int,int)", "rank(int,int,int)", "next(int,int,int,int)", "nodes(int,int)", "takes(int,int)",
      "lacks(int,int)", "follows(int,int,int)", "counts(int,int,int)", "others(int,int,int)", "empty(int)", "all(int)",
      "within(int,int)", "met()", "shown(int)", "letter(int)", "link(int,int,int,int,boolean)", "mark(int,int,boolean)",
      "begin(int,int,boolean)", "size()", "trouble()"};

  private static final String[] OUTSIDE = {"->", "::", "synchronized", "assert", "finally", "try", "catch", "protected", "Exact(", "System.",
      "String.format", "HashMap", "Random", "Thread", "nanoTime", "hashCode", "getClass", "import java.util.*", "static {", "package ",
      "instanceof", "double", "float", "Object", "while (true)", "for (;;)"};

  private static int wrong;

  private static void need(boolean is, String what) {
    if (!is) {
      wrong++;
      System.out.println("FaceTest: " + what);
    }
  }

  private static void face() {
    Class<OddRanks> c = OddRanks.class;
    need(c.getModifiers() == (Modifier.PUBLIC | Modifier.FINAL), "the class is public and final");
    Set<String> open = new TreeSet<>();
    Set<String> names = new HashSet<>();
    for (Method m : c.getDeclaredMethods()) {
      if (Modifier.isPrivate(m.getModifiers())) continue;
      StringBuilder s = new StringBuilder(m.getName()).append('(');
      for (Class<?> p : m.getParameterTypes()) s.append(s.charAt(s.length() - 1) == '(' ? "" : ",").append(p.getName());
      open.add(s.append(')').toString());
      names.add(m.getName());
      need(Modifier.toString(m.getModifiers()).equals("public"), m + " is public and no more");
      need(m.getReturnType() == int.class, m + " answers an int");
    }
    need(open.equals(new TreeSet<>(Arrays.asList(FACE))), "the methods are " + open);
    for (Class<?> inner : allClasses()) {
      for (Method m : inner.getDeclaredMethods()) {
        if (inner != c || Modifier.isPrivate(m.getModifiers())) need(!names.contains(m.getName()) || inner == c && !Modifier.isPrivate(m.getModifiers()), m + " bears a name of the face");
        need(m.getParameterCount() <= 7, m + " takes too many");
      }
      need(inner == c || Modifier.isStatic(inner.getModifiers()) && Modifier.isPrivate(inner.getModifiers()), inner + " is private and static");
    }
    fields(c);
  }

  private static void fields(Class<OddRanks> c) {
    for (Field f : c.getDeclaredFields()) {
      if (f.getName().equals("NONE")) need(Modifier.toString(f.getModifiers()).equals("public static final"), "NONE is public static final");
      else need(Modifier.isPrivate(f.getModifiers()), f + " is private");
    }
    need(OddRanks.NONE == -1, "NONE is -1");
    Constructor<?>[] made = c.getDeclaredConstructors();
    need(made.length == 1 && made[0].getParameterCount() == 0 && Modifier.isPublic(made[0].getModifiers()), "one public constructor");
    for (Class<?> inner : allClasses()) {
      int n = 0;
      for (Field f : inner.getDeclaredFields()) {
        if (Modifier.isStatic(f.getModifiers())) need(Modifier.isFinal(f.getModifiers()) && f.getType().isPrimitive(), f + " is a constant");
        else n++;
      }
      need(n <= 20, inner + " has " + n + " fields");
    }
  }

  private static List<Class<?>> allClasses() {
    List<Class<?>> all = new ArrayList<>(List.of(OddRanks.class));
    all.addAll(Arrays.asList(OddRanks.class.getDeclaredClasses()));
    return all;
  }

  private static void source() throws Exception {
    String text = Files.readString(Path.of("src/main/java/OddRanks.java"));
    for (char sign : text.toCharArray()) need(sign < 127, "a sign above 126: " + sign);
    String code = text.replaceAll("(?s)/\\*.*?\\*/", "").replaceAll("//[^\n]*", "").replaceAll("\"[^\"]*\"", "\"\"");
    for (String word : OUTSIDE) need(!code.contains(word), "the source has " + word);
    need(OddRanks.class.getDeclaredClasses().length <= 12, "twelve classes inside at most");
    Matcher thrown = Pattern.compile("throw [^;]*;").matcher(code);
    while (thrown.find()) need(thrown.group().equals("throw new NoSuchElementException();"), thrown.group());
    Matcher brought = Pattern.compile("import ([^;]*);").matcher(code);
    while (brought.find()) need(Set.of("java.util.Arrays", "java.util.NoSuchElementException").contains(brought.group(1)), brought.group());
    int begun = -1;
    String[] lines = code.split("\n");
    for (int i = 0; i < lines.length; i++) {
      if (lines[i].matches(" {4,8}[^ /@*][^=;]*\\) (throws \\w+ )?\\{")) begun = i;
      else if (begun >= 0 && lines[i].matches(" {4,8}\\}")) {
        need(i - begun <= 60, "a method of " + (i - begun) + " lines: " + lines[begun]);
        begun = -1;
      }
    }
  }

  public static void main(String[] args) throws Exception {
    face();
    source();
    System.out.println(wrong == 0 ? "FaceTest: all is as due" : "FaceTest: " + wrong + " things are not as due");
    if (wrong != 0) System.exit(1);
  }
}
