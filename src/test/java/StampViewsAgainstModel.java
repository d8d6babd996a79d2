import java.lang.reflect.InvocationTargetException;
import java.lang.reflect.Method;
import java.util.ArrayList;
import java.util.Arrays;
import java.util.List;
import java.util.NoSuchElementException;
import java.util.Random;

/** Runs of random calls, of which every answer is held against OfficeModel's. The seeds are fixed: runs are the same. */
public final class StampViewsAgainstModel {
  private static final int RUNS = 700;
  private static final int CALLS = 512;
  private static long passed = 0;
  private static long failed = 0;

  public static void main(String[] args) throws Exception {
    int runs = args.length > 0 ? Integer.parseInt(args[0]) : RUNS;
    int from = args.length > 1 ? Integer.parseInt(args[1]) : 0;
    for (int run = from; run < from + runs && failed < 20; run++) new Run(run).go();
    System.out.println(passed + " passed, " + failed + " failed");
    if (failed != 0) System.exit(1);
  }

  private static final class Run {
    final int number;
    final Random random;
    final StampViews made = new StampViews();
    final OfficeModel model = new OfficeModel();
    final List<Method> face = new ArrayList<>();
    int calls = 0;

    Run(int number) {
      this.number = number;
      this.random = new Random(number);
      for (Method m : StampViews.class.getDeclaredMethods()) {
        if (java.lang.reflect.Modifier.isPublic(m.getModifiers())) face.add(m);
      }
      face.sort((a, b) -> a.getName().compareTo(b.getName()));
    }

    void go() throws Exception {
      if (random.nextInt(10) > 0) tell(new TextMaker(random).whole());
      while (calls < CALLS) {
        int what = random.nextInt(100);
        if (what == 0) tell(new TextMaker(random).whole());
        else if (what < 3) tell(new TextMaker(random).spoilt());
        else {
          Method m = face.get(random.nextInt(face.size()));
          boolean dear = List.of("kept", "keptBy", "toFill").contains(m.getName());
          if ((!dear || random.nextInt(6) == 0) && (!m.getName().equals("office") || random.nextInt(20) == 0)) {
            both(m, argumentsFor(m));
          }
        }
      }
    }

    int[] argumentsFor(Method m) {
      int[] a = new int[m.getParameterCount()];
      for (int i = 0; i < a.length; i++) {
        if (m.getParameterTypes()[i] == boolean.class) a[i] = random.nextInt(2);
        else if (random.nextInt(60) == 0) a[i] = new int[] {Integer.MIN_VALUE, Integer.MAX_VALUE, -1, 900, 65536}[random.nextInt(5)];
        else if (List.of("presses", "birds", "printed").contains(m.getName()) && i >= a.length - 2)
          a[i] = i == a.length - 1 ? random.nextInt(94) - 1 : random.nextInt(65540) - 1;
        else if (List.of("good", "rule", "carve", "fill", "size").contains(m.getName())) a[i] = random.nextInt(random.nextBoolean() ? 4 : 24) - 1;
        else if (m.getName().equals("saysOf") && i == 1) a[i] = random.nextInt(34) - 1;
        else a[i] = random.nextInt(random.nextInt(5) == 0 ? 8 : 4) - (random.nextInt(20) == 0 ? 1 : 0);
      }
      return a;
    }

    void tell(String text) throws Exception {
      StringBuilder b = new StringBuilder(text);
      while (b.length() % 20 != 0) b.append(random.nextInt(4) == 0 ? 'x' : ' ');
      Method feed = StampViews.class.getMethod("feed", int.class, int.class, int.class, int.class, int.class);
      if (made.size(11) != 0) both(StampViews.class.getMethod("office", int.class), new int[] {0});
      for (int i = 0; i < b.length(); i += 20) {
        int[] a = new int[5];
        for (int k = 0; k < 20; k++) a[k / 4] = a[k / 4] << 8 | b.charAt(i + k) & 255;
        both(feed, a);
      }
      both(StampViews.class.getMethod("office", int.class), new int[] {text.length()});
      both(StampViews.class.getMethod("fault"), new int[0]);
      both(StampViews.class.getMethod("where"), new int[0]);
    }

    void both(Method m, int[] a) throws Exception {
      calls++;
      String due = modelAnswer(m, a);
      String got = madeAnswer(m, a);
      check(m.getName() + Arrays.toString(a), got, due);
      check("trouble behind " + m.getName() + Arrays.toString(a), made.trouble() + "", model.call("trouble", new int[0]) + "");
      check("where behind " + m.getName() + Arrays.toString(a), made.where() + "", model.call("where", new int[0]) + "");
    }

    String modelAnswer(Method m, int[] a) {
      try {
        return model.call(m.getName(), a) + "";
      } catch (NoSuchElementException e) {
        return "throws.NoSuchElementException";
      }
    }

    String madeAnswer(Method m, int[] a) throws Exception {
      Object[] boxed = new Object[a.length];
      for (int i = 0; i < a.length; i++) {
        if (m.getParameterTypes()[i] == boolean.class) boxed[i] = a[i] == 1;
        else boxed[i] = a[i];
      }
      try {
        Object got = m.invoke(made, boxed);
        return got instanceof Boolean b ? (b ? "1" : "0") : got.toString();
      } catch (InvocationTargetException e) {
        return "throws." + e.getCause().getClass().getSimpleName();
      }
    }

    void check(String what, String got, String due) {
      if (got.equals(due)) {
        passed++;
      } else {
        failed++;
        System.out.println("run " + number + ", call " + calls + ": " + what + " answered " + got + ", due is " + due);
      }
    }
  }

  /** Texts of offices, small and large, and texts with something wrong in them. */
  private static final class TextMaker {
    final Random random;
    final List<String> lines = new ArrayList<>();
    final List<String> words = new ArrayList<>(List.of("a", "b", "c", "d", "e", "f", "g", "h", "i", "j", "k", "l", "yes", "no",
        "faint", "birds", "worth", "ink", "kind", "moody", "else", "abcdefgh", "p", "q"));

    TextMaker(Random random) {
      this.random = random;
      java.util.Collections.shuffle(words, random);
    }

    List<String> names(int n) {
      List<String> out = new ArrayList<>();
      for (int i = 0; i < n; i++) out.add(words.remove(words.size() - 1));
      return out;
    }
    String one(List<String> of) { return of.get(random.nextInt(of.size())); }
    String verdict() { return one(List.of("no", "yes", "yes", "faint")); }
    String some(List<String> marks) {
      StringBuilder b = new StringBuilder();
      for (String m : marks) if (random.nextInt(5) < 2) b.append(',').append(m);
      return b.toString();
    }
    int upTo(int most) { return random.nextInt(3) == 0 ? most : random.nextInt(most + 1); }
    int moody() { return new int[] {0, 0, 100, 20, random.nextInt(101), 50}[random.nextInt(6)]; }

    String whole() { return String.join(";", makeLines()); }

    List<String> makeLines() {
      List<String> marks = names(upTo(5)), papers = names(1 + upTo(4)), stamps = names(upTo(4)), hands = names(upTo(3));
      lines.add("office birds " + random.nextInt(101));
      for (String m : marks) lines.add("mark " + m);
      for (String p : papers) lines.add("paper " + p + " worth " + random.nextInt(random.nextBoolean() ? 100 : 6) + some(marks));
      for (String s : stamps) lines.add("stamp " + s + " ink " + random.nextInt(random.nextInt(3) == 0 ? 10 : 3) + " else " + verdict() + some(marks));
      if (!stamps.isEmpty() && !marks.isEmpty())
        for (int k = upTo(10); k > 0; k--) lines.add("rule " + one(stamps) + (random.nextInt(3) == 0 ? " not " : " ") + one(marks) + " " + verdict());
      for (String h : hands) lines.add("hand " + h + " " + one(List.of("straight", "kind", "stern", "cross")) + " moody " + moody());
      for (String p : papers) if (random.nextInt(4) > 0) lines.add("want " + p + " " + verdict());
      if (!hands.isEmpty()) for (int k = upTo(4); k > 0; k--) lines.add("print " + one(papers) + " " + one(hands) + " " + verdict());
      return lines;
    }

    String spoilt() {
      makeLines();
      for (int k = 1 + random.nextInt(2); k > 0; k--) spoilLines();
      StringBuilder b = new StringBuilder(String.join(random.nextBoolean() ? ";" : " ; ", lines));
      for (int k = random.nextInt(3); k > 0; k--) spoilBytes(b);
      if (b.length() > 900) b.setLength(900);
      return b.toString();
    }

    void spoilLines() {
      int i = random.nextInt(lines.size());
      switch (random.nextInt(5)) {
        case 0 -> lines.add(lines.get(i));
        case 1 -> { if (lines.size() > 1) lines.remove(i); }
        case 2 -> lines.add(random.nextInt(lines.size()), lines.remove(i));
        case 3 -> { for (int k = 0; k < 3; k++) lines.add(random.nextInt(lines.size() + 1), lines.get(random.nextInt(lines.size()))); }
        default -> {
          String[] w = lines.get(i).split("(?<=[ ,])");
          w[random.nextInt(w.length)] = one(List.of("office ", "mark ", "not ", "101 ", "1000 ", "10 ", "zz ", "a ", "yes ", "abcdefghi ", ", ", ""));
          lines.set(i, String.join("", w));
        }
      }
    }

    void spoilBytes(StringBuilder b) {
      if (b.length() == 0) return;
      int i = random.nextInt(b.length());
      switch (random.nextInt(5)) {
        case 0 -> b.setLength(i);
        case 1 -> b.deleteCharAt(i);
        case 2 -> b.insert(i, one(List.of(" ", "  ", ";", ",", "a", "0", "A", "-", "\n", "\u00e9", "\u0000")));
        case 3 -> b.setCharAt(i, (char) random.nextInt(256));
        default -> { int j = b.indexOf(" ", i); if (j >= 0) b.deleteCharAt(j); }
      }
    }
  }
}
