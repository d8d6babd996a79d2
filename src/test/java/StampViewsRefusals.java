import java.lang.reflect.InvocationTargetException;
import java.lang.reflect.Method;
import java.util.ArrayList;
import java.util.List;
import java.util.Map;
import java.util.TreeMap;
import java.util.function.Supplier;

/**
 * Every call that may be refused, with every mix of arguments far below, just below, at and just above their bounds,
 * in every sort of state: by which number it is refused, and that all else is as in a twin on which no such call was made.
 */
public final class StampViewsRefusals {
  private static final int MIN = Integer.MIN_VALUE;
  private static final int MAX = Integer.MAX_VALUE;
  /** Three calls each, so that an object stays below its 512 with the trace behind it. */
  private static final int CALLS_BY_ONE_OBJECT = 40;

  /**
   * The sorts of arguments of each call: p paper, s stamp, o another stamp, h hand, k rule, m mark, q marks as bits,
   * i image, w what (its bound behind the name): refused by 1; v verdict, d months, n presses, e seed, f ink: by 2; b boolean.
   */
  private static final String[] CALLS = {
    "paper pw 4", "stamp sw 5", "hand hw 3", "rule kw 4", "says sp", "byRule sp", "saysOf sq", "prints shp", "sayers pv",
    "idleRules s", "differ so", "kept", "keptBy p", "toFill", "worded", "reword psv", "bestMark p", "odds sb", "likeliest",
    "next phvb", "laws", "lawSays p", "tryNext", "tryLeaves", "judges so", "good d", "settled", "steady", "has sp", "clerks",
    "applicants", "clerkPicks", "even", "sure shpvb", "mean shb", "presses ven", "birds en", "printed pen", "press shp",
    "carve kv", "mark pmb", "fill sf", "undo", "image", "back i",
  };
  private static final String ACTS = " press carve mark fill undo image back ";
  private static final String OF_STAMPS = " clerks applicants clerkPicks even ";
  private static final String OF_STAMPS_AND_HANDS = " presses birds printed ";

  public static void main(String[] args) throws Exception {
    Map<String, Method> face = new TreeMap<>();
    for (Method m : StampViews.class.getMethods()) face.put(m.getName(), m);
    for (String line : CALLS) {
      Call call = new Call(line.split(" "), face);
      new State("no office", Due::fresh, new int[8], 0).tryAll(call);
      new State("one paper", Due::bare, new int[] {0, 1, 0, 0, 0, 0}, 2).tryAll(call);
      new State("a stamp without a hand", () -> Due.busy(Due.BARE + ";stamp s ink 2 else no"), new int[] {0, 1, 1, 0, 0}, 2).tryAll(call);
      new State("a hand without a stamp", () -> Due.busy(Due.BARE + ";hand h kind moody 1"), new int[] {0, 1, 0, 0, 1}, 2).tryAll(call);
      new State("the town", Due::town, new int[] {3, 3, 3, 5, 3}, 2).tryAll(call);
      new State("a full office", Due::full, new int[] {5, 5, 4, 10, 3}, 2).tryAll(call);
    }
    Due.part("the table of calls");
    Due.is("calls that may be refused, office aside", CALLS.length, 52 - 7);
    Due.end();
  }

  private static final class Call {
    final String name;
    final String sorts;
    final int whats;
    final Method method;

    Call(String[] line, Map<String, Method> face) {
      name = line[0];
      sorts = line.length > 1 ? line[1] : "";
      whats = line.length > 2 ? Integer.parseInt(line[2]) : 0;
      method = face.get(name);
    }

    boolean isIn(String names) { return names.contains(" " + name + " "); }

    /** Refusals are -1; acts that answer false are told as -1, too. */
    long on(StampViews x, int[] a) throws Exception {
      Object[] boxed = new Object[a.length];
      for (int i = 0; i < a.length; i++) {
        if (sorts.charAt(i) == 'b') boxed[i] = a[i] == 1;
        else boxed[i] = a[i];
      }
      try {
        Object got = method.invoke(x, boxed);
        return got instanceof Boolean b ? (b ? 1 : -1) : ((Number) got).longValue();
      } catch (InvocationTargetException e) {
        System.out.println(name + " throws " + e.getCause());
        return MIN;
      }
    }
  }

  /** An object as it is made, with how many marks, papers, stamps, rules, hands (0 to 4) and images it has. */
  private static final class State {
    final String name;
    final Supplier<StampViews> made;
    final int[] counts;
    final int images;

    State(String name, Supplier<StampViews> made, int[] counts, int images) {
      this.name = name;
      this.made = made;
      this.counts = counts;
      this.images = images;
    }

    boolean isOpen() { return counts[1] > 0; }

    int least(char sort) { return sort == 'f' ? 1 : 0; }

    int most(char sort, Call call) {
      switch (sort) {
        case 'm': return counts[0] - 1;
        case 'p': return counts[1] - 1;
        case 's': case 'o': return counts[2] - 1;
        case 'k': return counts[3] - 1;
        case 'h': return counts[4] - 1;
        case 'q': return (1 << counts[0]) - 1;
        case 'i': return images - 1;
        case 'w': return call.whats - 1;
        case 'v': return 2;
        case 'd': return 20;
        case 'n': return 90;
        case 'e': return 65536;
        case 'f': return 9;
        default: return 1;
      }
    }

    int[] edges(char sort, Call call) {
      if (sort == 'b') return new int[] {0, 1};
      int least = least(sort), most = most(sort, call);
      return new int[] {MIN, -1, least - 1, least, most, most + 1, most + 32, MAX};
    }

    List<int[]> mixes(Call call) {
      List<int[]> all = new ArrayList<>();
      all.add(new int[0]);
      for (char sort : call.sorts.toCharArray()) {
        List<int[]> longer = new ArrayList<>();
        for (int[] a : all) {
          for (int v : edges(sort, call)) {
            int[] b = java.util.Arrays.copyOf(a, a.length + 1);
            b[a.length] = v;
            longer.add(b);
          }
        }
        all = longer;
      }
      return all;
    }

    /** The number by which the arguments alone are refused; 0 if they aren't. */
    int numberOf(Call call, int[] a) {
      int number = 0;
      for (int i = 0; i < a.length; i++) {
        char sort = call.sorts.charAt(i);
        boolean out = a[i] < least(sort) || a[i] > most(sort, call) || sort == 'o' && a[i] == a[i - 1];
        if (out && "vdnef".indexOf(sort) < 0) return 1;
        if (out) number = 2;
      }
      if (!isOpen() && !call.name.equals("undo")) return 1;
      if (number == 0 && call.isIn(OF_STAMPS) && counts[2] == 0) return 6;
      if (number == 0 && call.isIn(OF_STAMPS_AND_HANDS) && (counts[2] == 0 || counts[4] == 0)) return 6;
      return number;
    }

    void tryAll(Call call) throws Exception {
      Due.part(call.name + ", " + name);
      StampViews x = made.get();
      int fault = x.fault();
      int calls = 0;
      for (int[] a : mixes(call)) {
        int number = numberOf(call, a);
        if (number == 0 && call.isIn(ACTS)) continue;
        if (calls == CALLS_BY_ONE_OBJECT) {
          Due.same("all else", Due.all(x), Due.all(made.get()));
          x = made.get();
          calls = 0;
        }
        calls++;
        String told = call.name + java.util.Arrays.toString(a);
        long got = call.on(x, a);
        if (number != 0) Due.is(told, got, -1);
        else Due.holds(told + " isn't refused", got >= 0 || got == -2);
        Due.is("trouble behind " + told, x.trouble(), number);
        Due.is("where behind " + told, x.where(), -1);
      }
      Due.is("fault", x.fault(), fault);
      Due.same("all else", Due.all(x), Due.all(made.get()));
    }
  }
}
