import java.util.NoSuchElementException;
import java.util.function.Supplier;
import java.util.function.ToLongFunction;

/** What the tests of bounds share: counting, telling texts, and holding an object against a twin. */
final class Due {
  /** Marks widow 0, tram 1, seal 2; papers p {widow}, q {tram, seal}, r {}; stamps s, t, u; hands a, b, c. */
  static final String TOWN = "office birds 50;mark widow;mark tram;mark seal;"
      + "paper p worth 40,widow;paper q worth 60,tram,seal;paper r worth 9;"
      + "stamp s ink 1 else no,seal;stamp t ink 2 else yes,tram;stamp u ink 0 else faint;"
      + "rule s widow yes;rule t tram no;rule s not seal faint;rule t not widow yes;rule s seal yes;"
      + "hand a straight moody 20;hand b kind moody 0;hand c cross moody 0;"
      + "want p yes;want q yes;want r no;print q a no;print p b yes";
  /** One paper and nothing else. */
  static final String BARE = "office birds 7;paper p worth 5";
  /** As many of each sort as there is room for, numbers at their bounds. */
  static final String FULL = "office birds 100;mark a;mark b;mark c;mark d;mark e;"
      + "paper p worth 99,a,b,c,d,e;paper q worth 0;paper r worth 50,a;paper s worth 7,b,c;paper t worth 98,e;"
      + "stamp u ink 9 else yes,a;stamp v ink 0 else no,b,c;stamp w ink 1 else faint;stamp x ink 5 else yes,a,b,c,d,e;"
      + "rule u a no;rule u not b faint;rule v a yes;rule v not e no;rule w e faint;"
      + "rule w not a yes;rule x c no;rule x d faint;rule x not e yes;rule x e no;"
      + "hand f straight moody 0;hand g kind moody 100;hand h cross moody 50;"
      + "want p yes;want q no;want r faint;want s yes;want t no;"
      + "print p f no;print q g yes;print r h faint;print s f yes";

  static final long THROWS = Long.MIN_VALUE;

  private static int passed = 0;
  private static int failed = 0;
  private static String part = "";

  private Due() {}

  /** What is told of a failure beside the call: the promise or the term it belongs to. */
  static void part(String name) { part = name; }

  static void is(String what, long got, long want) {
    if (got == want) {
      passed++;
    } else {
      fail(what + " is " + got + ", due is " + want);
    }
  }

  static void same(String what, String got, String want) {
    if (got.equals(want)) {
      passed++;
    } else {
      fail(what + ":\n  got " + got + "\n  due " + want);
    }
  }

  static void holds(String what, boolean so) { is(what, so ? 1 : 0, 1); }

  static void fraction(String what, long upper, long lower, long dueUpper, long dueLower) {
    is(what + ", upper", upper, dueUpper);
    is(what + ", lower", lower, dueLower);
  }

  private static void fail(String text) {
    failed++;
    System.out.println(part + ": " + text);
  }

  static void end() {
    System.out.println(passed + " passed, " + failed + " failed");
    if (failed != 0) System.exit(1);
  }

  // ---- telling

  /** Bytes are the text's characters, 0 to 255; blanks come behind them, up to the next twenty. */
  static void feed(StampViews x, String text) {
    StringBuilder b = new StringBuilder(text);
    while (b.length() % 20 != 0) b.append(' ');
    for (int i = 0; i < b.length(); i += 20) {
      int[] five = new int[5];
      for (int k = 0; k < 20; k++) five[k / 4] = five[k / 4] << 8 | b.charAt(i + k);
      x.feed(five[0], five[1], five[2], five[3], five[4]);
    }
  }

  static int tell(StampViews x, String text) {
    feed(x, text);
    return x.office(text.length());
  }

  static StampViews at(String text) {
    StampViews x = new StampViews();
    if (tell(x, text) < 0) fail("fault " + x.fault() + " at " + x.where() + " of " + text);
    return x;
  }

  static String padded(String text, int bytes) {
    StringBuilder b = new StringBuilder(text);
    while (b.length() < bytes) b.append(' ');
    return b.toString();
  }

  // ---- states in which something can be lost

  /** A new object with half a text on its tape. */
  static StampViews fresh() {
    StampViews x = new StampViews();
    feed(x, "office birds 9;paper");
    return x;
  }

  /** An office in which something was done, undone and kept, a fault behind it, and half a text on the tape. */
  static StampViews busy(String text) {
    StampViews x = at(text);
    x.press(0, 0, 0);
    x.mark(0, 0, false);
    x.image();
    x.carve(0, 2);
    x.fill(1, 7);
    x.press(1, 0, 0);
    x.undo();
    x.image();
    tell(x, "office birds 5;mark a;mark a");
    feed(x, "office birds 9;paper");
    return x;
  }

  static StampViews town() { return busy(TOWN); }
  static StampViews full() { return busy(FULL); }
  static StampViews bare() { return busy(BARE); }

  // ---- all that an object tells

  /** What acts change. */
  static String now(StampViews x) {
    StringBuilder b = new StringBuilder();
    int papers = x.size(2), stamps = x.size(3), rules = x.size(4), hands = x.size(5);
    for (int p = 0; p < papers; p++) b.append(x.paper(p, 1)).append('/').append(x.paper(p, 3)).append(' ');
    for (int s = 0; s < stamps; s++) b.append(x.stamp(s, 0)).append('/').append(x.stamp(s, 4)).append(' ');
    for (int k = 0; k < rules; k++) b.append(x.rule(k, 3)).append(' ');
    for (int h = 0; h < hands; h++) b.append(x.hand(h, 2)).append(' ');
    return b.toString();
  }

  /** What the text told; no act changes it. */
  static String told(StampViews x) {
    StringBuilder b = new StringBuilder();
    for (int what = 0; what <= 11; what++) b.append(x.size(what)).append(' ');
    int papers = x.size(2), stamps = x.size(3), rules = x.size(4), hands = x.size(5);
    for (int p = 0; p < papers; p++) b.append(x.paper(p, 0)).append('/').append(x.paper(p, 2)).append(' ');
    for (int s = 0; s < stamps; s++) b.append(x.stamp(s, 1)).append('/').append(x.stamp(s, 2)).append(' ');
    for (int k = 0; k < rules; k++) {
      b.append(x.rule(k, 0)).append('/').append(x.rule(k, 1)).append('/').append(x.rule(k, 2)).append(' ');
    }
    for (int h = 0; h < hands; h++) b.append(x.hand(h, 0)).append('/').append(x.hand(h, 1)).append(' ');
    return b.append(x.laws()).append(' ').append(x.likeliest()).toString();
  }

  /** Everything, down to what can be undone, the images and the bytes of the tape. It uses the object up. */
  static String all(StampViews x) {
    StringBuilder b = new StringBuilder(told(x)).append(" | ").append(now(x));
    for (int i = 0; i < 17 && x.undo(); i++) b.append(" | undone ").append(now(x));
    for (int i = 0; i < 4 && x.back(i); i++) b.append(" | back ").append(now(x));
    feed(x, " z worth 3");
    b.append(" | tape ").append(x.office(x.size(11))).append(' ').append(x.fault()).append(' ').append(x.where());
    return b.append(' ').append(x.size(0)).append(' ').append(x.paper(0, 0)).toString();
  }

  /** THROWS, where led throws what the document names; whatever else is thrown ends the test. */
  static long led(StampViews x, int i) {
    try {
      return x.led(i);
    } catch (NoSuchElementException e) {
      return THROWS;
    }
  }

  // ---- refusals

  /** The call is refused by this number, and all else is as in a twin on which it wasn't made. */
  static void refused(String what, Supplier<StampViews> made, ToLongFunction<StampViews> call, int number) {
    StampViews x = made.get();
    StampViews twin = made.get();
    is(what, call.applyAsLong(x), -1);
    is("trouble behind " + what, x.trouble(), number);
    is("where behind " + what, x.where(), -1);
    is("fault behind " + what, x.fault(), twin.fault());
    same("all else behind " + what, all(x), all(twin));
  }

  /** Likewise an act that answers false. */
  static void denied(String what, Supplier<StampViews> made, ToLongFunction<StampViews> call, int number) {
    refused(what, made, x -> call.applyAsLong(x) == 0 ? -1 : 1, number);
  }

  /** The call isn't refused. */
  static void fine(String what, StampViews x, long got, long want) {
    is(what, got, want);
    is("trouble behind " + what, x.trouble(), 0);
    is("where behind " + what, x.where(), -1);
  }

  static void done(String what, StampViews x, boolean got) { fine(what, x, got ? 1 : 0, 1); }

  static long asLong(boolean b) { return b ? 1 : 0; }
}
