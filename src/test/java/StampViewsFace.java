import java.io.IOException;
import java.lang.reflect.Constructor;
import java.lang.reflect.Field;
import java.lang.reflect.Method;
import java.lang.reflect.Modifier;
import java.nio.file.Files;
import java.nio.file.Path;
import java.util.Set;
import java.util.TreeSet;
import java.util.regex.Matcher;
import java.util.regex.Pattern;

/** The class shows the document's face and nothing else, and its source keeps to those rules that can be seen in a text. */
public final class StampViewsFace {
  private static int passed = 0;
  private static int failed = 0;

  private static final String FACE = """
      int feed(int,int,int,int,int)
      int office(int)
      int fault()
      int where()
      int paper(int,int)
      int stamp(int,int)
      int hand(int,int)
      int rule(int,int)
      int says(int,int)
      int byRule(int,int)
      int saysOf(int,int)
      int prints(int,int,int)
      int sayers(int,int)
      int idleRules(int)
      int differ(int,int)
      int kept()
      int keptBy(int)
      int toFill()
      int worded()
      int reword(int,int,int)
      int bestMark(int)
      long odds(int,boolean)
      int likeliest()
      long next(int,int,int,boolean)
      int laws()
      int lawSays(int)
      int tryNext()
      int tryLeaves()
      int judges(int,int)
      int good(int)
      int settled()
      int steady()
      int has(int,int)
      int clerks()
      int applicants()
      int clerkPicks()
      int even()
      long sure(int,int,int,int,boolean)
      long mean(int,int,boolean)
      int presses(int,int,int)
      int birds(int,int)
      int printed(int,int,int)
      int press(int,int,int)
      boolean carve(int,int)
      boolean mark(int,int,boolean)
      boolean fill(int,int)
      boolean undo()
      int image()
      boolean back(int)
      int led(int)
      int size(int)
      int trouble()
      """;

  /** What the interface says ahead of which calls. */
  private static final String[][] HEADINGS = {
    {"the office", "feed office fault where"},
    {"now", "paper stamp hand rule says byRule saysOf prints sayers idleRules differ"},
    {"wants", "kept keptBy toFill"},
    {"words", "worded reword bestMark"},
    {"a stranger", "odds likeliest next laws lawSays tryNext tryLeaves"},
    {"judgement", "judges good settled steady"},
    {"a clerk, an applicant", "has clerks applicants clerkPicks even"},
    {"moods, draws", "sure mean presses birds printed"},
    {"acts", "press carve mark fill undo image back"},
    {"what is told", "led size trouble"},
  };

  public static void main(String[] args) throws IOException {
    String text = Files.readString(Path.of("src/main/java/StampViews.java"));
    face();
    exceptions(text);
    headings(text);
    insides();
    source(text);
    System.out.println(passed + " passed, " + failed + " failed");
    if (failed != 0) System.exit(1);
  }

  private static void holds(String what, boolean is) {
    if (is) {
      passed++;
    } else {
      failed++;
      System.out.println("not so: " + what);
    }
  }

  private static String spelt(Method m) {
    StringBuilder b = new StringBuilder(m.getReturnType().getName()).append(' ').append(m.getName()).append('(');
    for (Class<?> p : m.getParameterTypes()) b.append(b.charAt(b.length() - 1) == '(' ? "" : ",").append(p.getName());
    return b.append(')').toString();
  }

  private static void face() {
    Class<?> c = StampViews.class;
    holds("public and final", Modifier.isPublic(c.getModifiers()) && Modifier.isFinal(c.getModifiers()));
    Set<String> shown = new TreeSet<>();
    Set<String> names = new TreeSet<>();
    for (Method m : c.getDeclaredMethods()) {
      if (Modifier.isPrivate(m.getModifiers())) continue;
      shown.add((Modifier.isPublic(m.getModifiers()) && !Modifier.isStatic(m.getModifiers()) ? "" : "odd ") + spelt(m));
      names.add(m.getName());
    }
    holds("the face's methods", shown.equals(new TreeSet<>(FACE.lines().toList())));
    holds("one constructor without parameters",
        c.getDeclaredConstructors().length == 1 && c.getConstructors().length == 1 && c.getConstructors()[0].getParameterCount() == 0);
    for (Field f : c.getDeclaredFields()) {
      boolean none = f.getName().equals("NONE") && f.getType() == int.class && Modifier.isPublic(f.getModifiers())
          && Modifier.isStatic(f.getModifiers()) && Modifier.isFinal(f.getModifiers());
      holds("field " + f.getName(), none || Modifier.isPrivate(f.getModifiers()));
    }
    for (Method m : c.getDeclaredMethods()) {
      if (Modifier.isPrivate(m.getModifiers())) holds("a name of its own: " + m.getName(), !names.contains(m.getName()));
    }
    for (Class<?> inside : c.getDeclaredClasses()) {
      for (Method m : inside.getDeclaredMethods()) holds("a name of its own: " + m.getName(), !names.contains(m.getName()));
    }
  }

  /** led alone says that it throws, and nothing else is thrown anywhere. */
  private static void exceptions(String text) {
    for (Method m : StampViews.class.getDeclaredMethods()) {
      Class<?>[] thrown = m.getExceptionTypes();
      if (m.getName().equals("led")) holds("led throws it", thrown.length == 1 && thrown[0] == java.util.NoSuchElementException.class);
      else holds(m.getName() + " tells of none", thrown.length == 0);
    }
    holds("one throw", text.indexOf("throw new NoSuchElementException(") == text.lastIndexOf("throw new "));
    try {
      holds("NONE is -1", StampViews.class.getField("NONE").getInt(null) == -1);
    } catch (ReflectiveOperationException e) {
      holds("NONE is there", false);
    }
  }

  /** Each heading once, ahead of its calls, all of them in the document's order. */
  private static void headings(String text) {
    StringBuilder due = new StringBuilder();
    for (String[] heading : HEADINGS) {
      due.append("---- ").append(heading[0]).append('\n');
      for (String name : heading[1].split(" ")) due.append(name).append('\n');
    }
    StringBuilder got = new StringBuilder();
    Matcher m = Pattern.compile("(?m)^    // (---- .*)$|^    public \\w+ (\\w+)\\(").matcher(text);
    while (m.find()) got.append(m.group(1) != null ? m.group(1) : m.group(2)).append('\n');
    holds("headings ahead of their calls:\n" + got, got.toString().startsWith(due.toString()));
    String rest = got.substring(Math.min(due.length(), got.length()));
    holds("no call behind them", rest.lines().allMatch(line -> line.startsWith("---- ")));
  }

  private static void insides() {
    holds("some twelve classes", StampViews.class.getDeclaredClasses().length + 1 <= 12);
    for (Class<?> inside : StampViews.class.getDeclaredClasses()) {
      holds("static: " + inside, Modifier.isStatic(inside.getModifiers()) && Modifier.isPrivate(inside.getModifiers()));
      int fields = 0;
      for (Field f : inside.getDeclaredFields()) {
        if (!Modifier.isStatic(f.getModifiers())) fields++;
        else holds("a constant: " + f, Modifier.isFinal(f.getModifiers()));
      }
      holds("some twenty fields: " + inside, fields <= 20);
      for (Method m : inside.getDeclaredMethods()) holds("seven parameters: " + m, m.getParameterCount() <= 7);
      for (Constructor<?> k : inside.getDeclaredConstructors()) holds("seven parameters: " + k, k.getParameterCount() <= 7);
    }
  }

  private static void source(String text) {
    for (String word : new String[] {"catch", "finally", "synchronized", "assert ", "->", "::", "package ", "System.", "Random", "%=", "instanceof"}) {
      holds("without '" + word + "'", !text.contains(word));
    }
    Set<String> library = Set.of("Math.max", "Math.min", "Integer.bitCount", "Long.bitCount");
    Matcher used = Pattern.compile("\\b(?:Math|Integer|Long|String|Arrays|Character|Object|List)\\.\\w+").matcher(text);
    while (used.find()) holds("in the list of the library: " + used.group(), library.contains(used.group()));
    holds("one import", text.indexOf("import java.util.NoSuchElementException;") == text.lastIndexOf("import "));
    int longest = 0;
    int from = 0;
    String[] lines = text.split("\n");
    for (int i = 0; i < lines.length; i++) {
      if (lines[i].matches(" {4,8}[A-Za-z].*\\) (throws \\w+ )?\\{")) from = i;
      if (lines[i].matches(" {4,8}\\}")) longest = Math.max(longest, i - from);
    }
    holds("methods of some sixty lines: " + longest, longest > 0 && longest <= 60);
  }
}
