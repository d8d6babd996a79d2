import java.util.ArrayList;
import java.util.Arrays;
import java.util.Collections;
import java.util.List;
import java.util.Random;
import java.util.function.Supplier;

/**
 * One office come by in two ways must answer alike, whatever the answers are: told at once, or told otherwise and then
 * marked, carved, filled and pressed (all is as NOW); undone; gone back to; told with other blanks, names, zeros or in
 * another order of lines. No answer is reckoned here, so no reading of the document but "it is the same" is shared with the class.
 */
public final class StampViewsSameOffice {
  private static final int ROUNDS = 300;
  private static final int TAPE = 900;
  private static final int UNDONE_AT_MOST = 16;
  private static final int PRESS = 0, CARVE = 1, MARK = 2, FILL = 3, UNDO = 4, IMAGE = 5, BACK = 6;

  public static void main(String[] args) {
    for (int round = 0; round < ROUNDS; round++) {
      Random random = new Random(round);
      actsAreAsTold(random, round);
      undoneIsAsAhead(random, round);
      backIsAsByImage(random, round);
      blanksMeanNothing(random, round);
      namesMeanNothing(random, round);
      linesMayStandInAnyOrder(random, round);
    }
    likelihoodsAreWhole();
    Due.end();
  }

  // ---- the ways

  private static void actsAreAsTold(Random random, int round) {
    Due.part("all is as NOW, round " + round);
    Told told = new Told(random);
    String text = told.text(new Style());
    List<int[]> acts = someActs(told, random, random.nextInt(20));
    Due.same("told at once", answers(() -> replay(text, acts), false), answers(() -> Due.at(told.text(new Style())), false));
  }

  private static void undoneIsAsAhead(Random random, int round) {
    Due.part("UNDO, round " + round);
    Told told = new Told(random);
    String text = told.text(new Style());
    List<int[]> acts = someActs(told, random, random.nextInt(9));
    List<int[]> more = new ArrayList<>(acts);
    List<int[]> undone = someActs(told, random, random.nextInt(UNDONE_AT_MOST - acts.size() + 1));
    more.addAll(undone);
    for (int i = 0; i < undone.size(); i++) more.add(new int[] {UNDO});
    Due.same("as ahead", answers(() -> replay(text, more), true), answers(() -> replay(text, acts), true));
    Due.is("as many can be undone", replay(text, more).size(9), acts.size());
    for (int i = 0; i < acts.size(); i++) more.add(new int[] {UNDO});
    Due.same("as told", answers(() -> replay(text, more), true), answers(() -> Due.at(text), true));
  }

  private static void backIsAsByImage(Random random, int round) {
    Due.part("IMAGES, round " + round);
    Told told = new Told(random);
    String text = told.text(new Style());
    List<List<int[]>> ahead = new ArrayList<>();
    List<int[]> run = new ArrayList<>();
    List<int[]> acts = new ArrayList<>();
    for (int i = 0; i < 3; i++) {
      List<int[]> some = someActs(told, random, random.nextInt(6));
      acts.addAll(some);
      run.addAll(some);
      run.add(new int[] {IMAGE});
      ahead.add(new ArrayList<>(acts));
    }
    run.addAll(someActs(told, random, random.nextInt(6)));
    for (int n = 0; n < 4; n++) {
      int image = random.nextInt(3);
      run.add(new int[] {BACK, image});
      Due.same("as by image " + image, answers(() -> replay(text, run), true), answers(() -> replay(text, ahead.get(image)), true));
      Due.is("nothing can be undone", replay(text, run).size(9), 0);
      Due.is("all images stay", replay(text, run).size(10), 3);
    }
  }

  private static void blanksMeanNothing(Random random, int round) {
    Due.part("blanks part tokens and mean nothing else, round " + round);
    Told told = new Told(random);
    Style wide = new Style();
    wide.blanks = random;
    Due.same("wider", answers(() -> Due.at(told.text(wide)), true), answers(() -> Due.at(told.text(new Style())), true));
  }

  private static void namesMeanNothing(Random random, int round) {
    Due.part("names, round " + round);
    Told told = new Told(random);
    Style other = new Style();
    other.rename(random);
    Due.same("by other names", answers(() -> Due.at(told.text(other)), true), answers(() -> Due.at(told.text(new Style())), true));
  }

  private static void linesMayStandInAnyOrder(Random random, int round) {
    Due.part("ahead of its use, round " + round);
    Told told = new Told(random);
    Style mixed = new Style();
    mixed.order = random;
    String text = told.text(mixed);
    Due.same("in another order", answers(() -> Due.at(text), true), answers(() -> Due.at(told.text(new Style())), true));
  }

  // ---- likelihoods of all that can be make one

  private static void likelihoodsAreWhole() {
    Due.part("odds, next, sure: they are one in all");
    for (int round = 0; round < ROUNDS; round++) {
      Told told = new Told(new Random(-1 - round));
      StampViews x = Due.at(told.text(new Style()));
      double odds = 0;
      for (int s = 0; s < told.stamps.size(); s++) odds += (double) x.odds(s, false) / x.odds(s, true);
      Due.holds("odds are one or nothing", isNear(odds, x.likeliest() == -2 ? 0 : 1));
      for (int h = 0; h < told.hands.size(); h++) {
        int p = round % told.papers.size();
        double next = 0;
        for (int v = 0; v < 3; v++) next += (double) x.next(p, h, v, false) / x.next(p, h, v, true);
        Due.holds("next is one or nothing", isNear(next, x.likeliest() == -2 ? 0 : 1));
        for (int s = 0; s < told.stamps.size(); s++) {
          double sure = 0;
          for (int v = 0; v < 3; v++) sure += (double) x.sure(s, h, p, v, false) / x.sure(s, h, p, v, true);
          Due.holds("sure is one", isNear(sure, 1));
        }
      }
    }
  }

  private static boolean isNear(double a, double b) { return a - b < 1e-9 && b - a < 1e-9; }

  // ---- acts

  /** Acts that aren't refused, done in what is told, too. */
  private static List<int[]> someActs(Told told, Random random, int n) {
    List<int[]> acts = new ArrayList<>();
    for (int tries = 0; acts.size() < n && tries < 40 * n; tries++) {
      int[] act = told.tryAct(random);
      if (act != null) acts.add(act);
    }
    return acts;
  }

  private static StampViews replay(String text, List<int[]> acts) {
    StampViews x = Due.at(text);
    for (int[] a : acts) {
      boolean done = true;
      switch (a[0]) {
        case PRESS -> done = x.press(a[1], a[2], a[3]) >= 0;
        case CARVE -> done = x.carve(a[1], a[2]);
        case MARK -> done = x.mark(a[1], a[2], a[3] == 1);
        case FILL -> done = x.fill(a[1], a[2]);
        case UNDO -> done = x.undo();
        case IMAGE -> done = x.image() >= 0;
        default -> done = x.back(a[1]);
      }
      if (!done) Due.holds("act " + Arrays.toString(a), false);
    }
    return x;
  }

  // ---- all answers, a new object for each part so that none has more than 512 calls

  private static String answers(Supplier<StampViews> made, boolean pressed) {
    StringBuilder b = new StringBuilder();
    told(made.get(), pressed, b);
    said(made.get(), b);
    words(made.get(), b);
    wants(made.get(), b);
    stranger(made.get(), b);
    judgement(made.get(), b);
    moods(made.get(), b);
    return b.toString();
  }

  private static void told(StampViews x, boolean pressed, StringBuilder b) {
    int few = pressed ? 0 : 1;
    for (int what = 0; what <= (pressed ? 8 : 7); what++) b.append(x.size(what)).append(' ');
    for (int p = 0; p < x.size(2); p++) for (int what = 0; what < 4 - few; what++) b.append(x.paper(p, what)).append(' ');
    for (int s = 0; s < x.size(3); s++) for (int what = 0; what < 5 - few; what++) b.append(x.stamp(s, what)).append(' ');
    for (int h = 0; h < x.size(5); h++) for (int what = 0; what < 3 - few; what++) b.append(x.hand(h, what)).append(' ');
    for (int k = 0; k < x.size(4); k++) for (int what = 0; what < 4; what++) b.append(x.rule(k, what)).append(' ');
    for (int i = 0; pressed && i < 5; i++) b.append(Due.led(x, i)).append(' ');
  }

  private static void said(StampViews x, StringBuilder b) {
    int papers = x.size(2), stamps = x.size(3), hands = x.size(5), sets = 1 << x.size(1);
    b.append("\n  said ");
    for (int s = 0; s < stamps; s++) {
      for (int p = 0; p < papers; p++) {
        b.append(x.says(s, p)).append('/').append(x.byRule(s, p)).append(' ');
        for (int h = 0; h < hands; h++) b.append(x.prints(s, h, p));
      }
      for (int set = 0; set < sets; set++) b.append(x.saysOf(s, set));
      b.append(' ').append(x.idleRules(s)).append(' ');
    }
  }

  private static void words(StampViews x, StringBuilder b) {
    int papers = x.size(2), stamps = x.size(3);
    b.append("\n  words ").append(x.worded()).append(' ');
    for (int p = 0; p < papers; p++) {
      b.append(x.bestMark(p)).append(' ');
      for (int v = 0; v < 3; v++) {
        b.append(x.sayers(p, v)).append(' ');
        for (int s = 0; s < stamps; s++) b.append(x.reword(p, s, v)).append(' ');
      }
    }
    for (int s = 0; s < stamps; s++) for (int o = 0; o < stamps; o++) b.append(x.differ(s, o)).append(' ');
  }

  private static void wants(StampViews x, StringBuilder b) {
    b.append("\n  wants ").append(x.kept()).append(' ').append(x.toFill()).append(' ');
    for (int p = 0; p < x.size(2); p++) b.append(x.keptBy(p)).append(' ');
  }

  private static void stranger(StampViews x, StringBuilder b) {
    int papers = x.size(2), stamps = x.size(3), hands = x.size(5);
    b.append("\n  stranger ").append(x.likeliest()).append(' ').append(x.laws()).append(' ').append(x.tryNext()).append(' ').append(x.tryLeaves());
    for (int s = 0; s < stamps; s++) b.append(' ').append(x.odds(s, false)).append('/').append(x.odds(s, true));
    for (int p = 0; p < papers; p++) {
      b.append(' ').append(x.lawSays(p));
      for (int h = 0; h < hands; h++)
        for (int v = 0; v < 3; v++) b.append(' ').append(x.next(p, h, v, false)).append('/').append(x.next(p, h, v, true));
    }
  }

  private static void judgement(StampViews x, StringBuilder b) {
    int papers = x.size(2), stamps = x.size(3);
    b.append("\n  judgement ").append(x.settled()).append(' ').append(x.steady());
    for (int months = 0; months <= 20; months++) b.append(' ').append(x.good(months));
    for (int s = 0; s < stamps; s++) for (int o = 0; o < stamps; o++) b.append(' ').append(x.judges(s, o));
    b.append("\n  clerk ").append(x.clerks()).append(' ').append(x.applicants()).append(' ').append(x.clerkPicks()).append(' ').append(x.even());
    for (int s = 0; s < stamps; s++) for (int p = 0; p < papers; p++) b.append(' ').append(x.has(s, p));
  }

  private static void moods(StampViews x, StringBuilder b) {
    int papers = x.size(2), stamps = x.size(3), hands = x.size(5);
    b.append("\n  moods ");
    for (int s = 0; s < stamps; s++) {
      for (int h = 0; h < hands; h++) {
        b.append(x.mean(s, h, false)).append('/').append(x.mean(s, h, true)).append(' ');
        for (int p = 0; p < papers; p++) for (int v = 0; v < 3; v++) b.append(x.sure(s, h, p, v, false)).append(' ');
      }
    }
    for (int seed : new int[] {0, 1, 4711, 65535}) {
      for (int v = 0; v < 3; v++) b.append(x.presses(v, seed, 90)).append(' ');
      b.append(x.birds(seed, 90)).append(' ');
      for (int p = 0; p < papers; p++) b.append(x.printed(p, seed, 9)).append(' ');
    }
  }

  // ---- what is told, and how

  /** How a text is put: each part is plain unless it is set. */
  private static final class Style {
    Random blanks = null;
    Random order = null;
    String[] names = null;

    void rename(Random random) {
      List<String> words = new ArrayList<>(List.of("birds", "worth", "ink", "else", "moody", "yes", "no", "faint", "straight", "kind", "stern",
          "cross", "offices", "nots", "a", "z", "aa", "zz", "abcdefgh", "zyxwvuts"));
      Collections.shuffle(words, random);
      names = words.toArray(new String[0]);
    }

    /** Marks are the names 0 to 4, papers 5 to 9, stamps 10 to 13, hands 14 to 16. */
    String name(int i) { return names == null ? String.valueOf((char) ('a' + i)) : names[i]; }
  }

  /** A line's tokens, and those names that must be told ahead of it. */
  private record Line(int sort, int tells, List<Integer> uses, List<String> tokens) {}

  private static final class Told {
    static final String[] VERDICTS = {"no", "yes", "faint"};
    static final String[] KINDS = {"straight", "kind", "stern", "cross"};
    static final int FIRST_PAPER = 5, FIRST_STAMP = 10, FIRST_HAND = 14;

    final int birds;
    final int marks;
    /** Worth, marks as bits, want or -2. */
    final List<int[]> papers = new ArrayList<>();
    /** Ink, verdict, marks as bits. */
    final List<int[]> stamps = new ArrayList<>();
    /** Stamp, mark, 1 if not, verdict. */
    final List<int[]> rules = new ArrayList<>();
    /** Kind, moody. */
    final List<int[]> hands = new ArrayList<>();
    /** Paper, hand, verdict. */
    final List<int[]> prints = new ArrayList<>();

    Told(Random r) {
      birds = r.nextInt(101);
      marks = r.nextInt(6);
      for (int n = 1 + r.nextInt(5); n > 0; n--) papers.add(new int[] {r.nextInt(100), r.nextInt(1 << marks), r.nextInt(5) == 0 ? -2 : r.nextInt(3)});
      for (int n = r.nextInt(5); n > 0; n--) stamps.add(new int[] {r.nextInt(r.nextBoolean() ? 3 : 10), r.nextInt(3), r.nextInt(1 << marks)});
      if (marks > 0 && !stamps.isEmpty())
        for (int n = r.nextInt(11); n > 0; n--) rules.add(new int[] {r.nextInt(stamps.size()), r.nextInt(marks), r.nextInt(2), r.nextInt(3)});
      for (int n = r.nextInt(4); n > 0; n--) hands.add(new int[] {r.nextInt(4), r.nextInt(3) * r.nextInt(51)});
      if (!hands.isEmpty())
        for (int n = r.nextInt(5); n > 0; n--) prints.add(new int[] {r.nextInt(papers.size()), r.nextInt(hands.size()), r.nextInt(3)});
    }

    /** One act by chance, or null where it would be refused. */
    int[] tryAct(Random r) {
      switch (r.nextInt(4)) {
        case PRESS: {
          if (stamps.isEmpty() || hands.isEmpty()) return null;
          int s = r.nextInt(stamps.size());
          if (stamps.get(s)[0] == 0) return null;
          stamps.get(s)[0]--;
          return new int[] {PRESS, s, r.nextInt(hands.size()), r.nextInt(papers.size())};
        }
        case CARVE: {
          if (rules.isEmpty()) return null;
          int k = r.nextInt(rules.size()), verdict = r.nextInt(3);
          if (rules.get(k)[3] == verdict) return null;
          rules.get(k)[3] = verdict;
          return new int[] {CARVE, k, verdict};
        }
        case MARK: {
          if (marks == 0) return null;
          int p = r.nextInt(papers.size()), m = r.nextInt(marks);
          papers.get(p)[1] ^= 1 << m;
          return new int[] {MARK, p, m, papers.get(p)[1] >> m & 1};
        }
        default: {
          if (stamps.isEmpty()) return null;
          int s = r.nextInt(stamps.size()), ink = 1 + r.nextInt(9);
          if (stamps.get(s)[0] >= ink) return null;
          stamps.get(s)[0] = ink;
          return new int[] {FILL, s, ink};
        }
      }
    }

    String text(Style style) {
      List<Line> lines = lines(style);
      if (style.order != null) lines = mixed(lines, style.order);
      StringBuilder b = new StringBuilder();
      int spare = TAPE - joined(lines, null, TAPE).length();
      b.append(joined(lines, style.blanks, spare));
      return b.toString();
    }

    List<Line> lines(Style style) {
      List<Line> out = new ArrayList<>();
      out.add(new Line(0, -1, List.of(), List.of("office", "birds", "" + birds)));
      for (int m = 0; m < marks; m++) out.add(new Line(1, m, List.of(), List.of("mark", style.name(m))));
      for (int i = 0; i < papers.size(); i++) {
        int[] p = papers.get(i);
        out.add(withMarks(2, FIRST_PAPER + i, p[1], style, "paper", style.name(FIRST_PAPER + i), "worth", "" + p[0]));
      }
      for (int i = 0; i < stamps.size(); i++) {
        int[] s = stamps.get(i);
        out.add(withMarks(3, FIRST_STAMP + i, s[2], style, "stamp", style.name(FIRST_STAMP + i), "ink", "" + s[0], "else", VERDICTS[s[1]]));
      }
      for (int[] k : rules) {
        List<String> tokens = new ArrayList<>(List.of("rule", style.name(FIRST_STAMP + k[0]), style.name(k[1]), VERDICTS[k[3]]));
        if (k[2] == 1) tokens.add(2, "not");
        out.add(new Line(4, -1, List.of(FIRST_STAMP + k[0], k[1]), tokens));
      }
      for (int i = 0; i < hands.size(); i++) {
        int[] h = hands.get(i);
        out.add(new Line(5, FIRST_HAND + i, List.of(), List.of("hand", style.name(FIRST_HAND + i), KINDS[h[0]], "moody", "" + h[1])));
      }
      for (int i = 0; i < papers.size(); i++) {
        if (papers.get(i)[2] < 0) continue;
        out.add(new Line(6, -1, List.of(FIRST_PAPER + i), List.of("want", style.name(FIRST_PAPER + i), VERDICTS[papers.get(i)[2]])));
      }
      for (int[] x : prints) {
        out.add(new Line(7, -1, List.of(FIRST_PAPER + x[0], FIRST_HAND + x[1]),
            List.of("print", style.name(FIRST_PAPER + x[0]), style.name(FIRST_HAND + x[1]), VERDICTS[x[2]])));
      }
      return out;
    }

    Line withMarks(int sort, int tells, int bits, Style style, String... ahead) {
      List<String> tokens = new ArrayList<>(List.of(ahead));
      List<Integer> uses = new ArrayList<>();
      for (int m = 0; m < marks; m++) if ((bits >> m & 1) == 1) uses.add(m);
      if (style.order != null) Collections.shuffle(uses, style.order);
      for (int m : uses) {
        tokens.add(",");
        tokens.add(style.name(m));
      }
      return new Line(sort, tells, uses, tokens);
    }

    /** The order of lines of one sort stays (wants aside), and each name is told ahead of its use. */
    static List<Line> mixed(List<Line> lines, Random random) {
      List<Line> left = new ArrayList<>(lines);
      List<Line> out = new ArrayList<>(List.of(left.remove(0)));
      List<Integer> told = new ArrayList<>();
      while (!left.isEmpty()) {
        Line line = left.get(random.nextInt(left.size()));
        boolean isFirst = line.sort == 6 || left.stream().filter(l -> l.sort == line.sort).findFirst().get() == line;
        if (!isFirst || !told.containsAll(line.uses)) continue;
        left.remove(line);
        out.add(line);
        told.add(line.tells);
      }
      return out;
    }

    /** Single blanks where they must be; by chance more of them, or zeros ahead of wholes, as far as there is room. */
    static String joined(List<Line> lines, Random random, int spare) {
      List<String> tokens = new ArrayList<>();
      for (Line line : lines) {
        if (!tokens.isEmpty()) tokens.add(";");
        tokens.addAll(line.tokens);
      }
      StringBuilder b = new StringBuilder();
      int left = spare;
      for (String token : tokens) {
        boolean plain = random == null || left < 6;
        if (b.length() > 0 && isOneSort(b.charAt(b.length() - 1), token.charAt(0))) b.append(' ');
        for (int n = plain ? 0 : random.nextInt(4); n > 0; n--, left--) b.append(' ');
        for (int n = plain || !isDigit(token.charAt(0)) ? 0 : random.nextInt(4 - token.length()); n > 0; n--, left--) b.append('0');
        b.append(token);
      }
      for (int n = random == null ? 0 : Math.min(left, random.nextInt(3)); n > 0; n--) b.append(' ');
      return b.toString();
    }

    static boolean isDigit(char c) { return c >= '0' && c <= '9'; }
    static boolean isLetter(char c) { return c >= 'a' && c <= 'z'; }
    static boolean isOneSort(char a, char b) { return isDigit(a) && isDigit(b) || isLetter(a) && isLetter(b); }
  }
}
