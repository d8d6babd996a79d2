import java.math.BigInteger;
import java.util.ArrayList;
import java.util.Arrays;
import java.util.HashMap;
import java.util.List;
import java.util.Map;
import java.util.NoSuchElementException;
import java.util.Set;

/**
 * The document told once more, as slowly and plainly as the Java library allows, to hold StampViews against.
 * It shares no code and no way of reckoning with it: names in maps, whole enumerations, copies of whole states.
 */
final class OfficeModel {
  static final Set<String> NOT_NAMES =
      Set.of("office", "mark", "paper", "stamp", "rule", "hand", "want", "print", "not");
  static final List<String> VERDICTS = List.of("no", "yes", "faint");
  static final List<String> KINDS = List.of("straight", "kind", "stern", "cross");

  record Stamp(int ink, int otherwise, int marks) {}
  record Rule(int stamp, int mark, boolean not, int verdict) {}
  record Hand(int kind, int moody) {}
  record Print(int paper, int hand, int verdict) {}

  static final class Fault extends RuntimeException {
    final int number;
    final int place;
    Fault(int number, int place) { this.number = number; this.place = place; }
  }

  static final class Text {
    int birds = -1;
    final List<String> marks = new ArrayList<>();
    final List<Integer> worths = new ArrayList<>();
    final List<Integer> paperMarks = new ArrayList<>();
    final Map<Integer, Integer> wants = new HashMap<>();
    final List<Stamp> stamps = new ArrayList<>();
    final List<Rule> rules = new ArrayList<>();
    final List<Hand> hands = new ArrayList<>();
    final List<Print> prints = new ArrayList<>();
  }

  static final class State {
    int[] marks, ink, verdict, byStamp, byHand;
    Integer[] latest;
    State copy() {
      State c = new State();
      c.marks = marks.clone(); c.ink = ink.clone(); c.verdict = verdict.clone();
      c.byStamp = byStamp.clone(); c.byHand = byHand.clone(); c.latest = latest.clone();
      return c;
    }
  }

  // ---- reading: tokens are cut as the reader comes to them, so the leftmost fault is met first

  static final class Reading {
    final String text;
    int at = 0;
    String token;
    int place;
    final Map<String, String> sorts = new HashMap<>();
    final Map<String, Integer> numbers = new HashMap<>();
    final Text out = new Text();

    Reading(String text) { this.text = text; cut(); }

    void cut() {
      while (at < text.length() && text.charAt(at) == ' ') at++;
      place = at;
      if (at == text.length()) { token = ""; return; }
      String rest = text.substring(at);
      String letters = rest.replaceAll("(?s)^([a-z]*).*$", "$1");
      String digits = rest.replaceAll("(?s)^([0-9]*).*$", "$1");
      if (!letters.isEmpty()) token = letters.length() > 8 ? "?" : letters;
      else if (!digits.isEmpty()) token = digits.length() > 3 ? "?" : digits;
      else token = rest.startsWith(";") || rest.startsWith(",") ? rest.substring(0, 1) : "?";
      at += Math.max(1, Math.max(letters.length(), digits.length()));
    }

    Fault fault(int number) { return new Fault(number, place); }
    boolean isWord() { return token.matches("[a-z]{1,8}"); }
    void word(String w) { if (!token.equals(w)) throw fault(1); cut(); }
    int of(List<String> words) {
      int i = words.indexOf(token);
      if (i < 0) throw fault(1);
      cut();
      return i;
    }
    int whole(int most) {
      if (!token.matches("[0-9]{1,3}")) throw fault(1);
      int v = Integer.parseInt(token);
      if (v > most) throw fault(4);
      cut();
      return v;
    }
    void newName(String sort, int number) {
      if (!isWord() || NOT_NAMES.contains(token)) throw fault(1);
      if (sorts.containsKey(token)) throw fault(3);
      sorts.put(token, sort);
      numbers.put(token, number);
      cut();
    }
    int oldName(String sort, Set<Integer> unlike) {
      if (!isWord() || NOT_NAMES.contains(token)) throw fault(1);
      if (!sort.equals(sorts.get(token))) throw fault(2);
      int number = numbers.get(token);
      if (unlike.contains(number)) throw fault(3);
      cut();
      return number;
    }
    int marks() {
      List<Integer> found = new ArrayList<>();
      while (token.equals(",")) {
        cut();
        found.add(oldName("mark", Set.copyOf(found)));
      }
      int bits = 0;
      for (int m : found) bits += 1 << m;
      return bits;
    }
    void room(List<?> told, int most) { if (told.size() >= most) throw fault(5); }

    Text read() {
      while (true) {
        line();
        if (token.isEmpty()) break;
        word(";");
      }
      if (out.worths.isEmpty()) throw fault(6);
      return out;
    }

    void line() {
      if (!NOT_NAMES.contains(token) || token.equals("not")) throw fault(1);
      if (token.equals("office") && out.birds >= 0) throw fault(3);
      if (!token.equals("office") && out.birds < 0) throw fault(6);
      switch (token) {
        case "office" -> { cut(); word("birds"); out.birds = whole(100); }
        case "mark" -> { room(out.marks, 5); cut(); newName("mark", out.marks.size()); out.marks.add("m"); }
        case "paper" -> {
          room(out.worths, 5); cut(); newName("paper", out.worths.size());
          word("worth"); out.worths.add(whole(99)); out.paperMarks.add(marks());
        }
        case "stamp" -> {
          room(out.stamps, 4); cut(); newName("stamp", out.stamps.size());
          word("ink"); int ink = whole(9); word("else"); int v = of(VERDICTS);
          out.stamps.add(new Stamp(ink, v, marks()));
        }
        case "rule" -> {
          room(out.rules, 10); cut(); int s = oldName("stamp", Set.of());
          boolean not = token.equals("not");
          if (not) cut();
          int m = oldName("mark", Set.of());
          out.rules.add(new Rule(s, m, not, of(VERDICTS)));
        }
        case "hand" -> {
          room(out.hands, 3); cut(); newName("hand", out.hands.size());
          int kind = of(KINDS); word("moody"); out.hands.add(new Hand(kind, whole(100)));
        }
        case "want" -> { cut(); int p = oldName("paper", out.wants.keySet()); out.wants.put(p, of(VERDICTS)); }
        default -> {
          room(out.prints, 4); cut(); int p = oldName("paper", Set.of()); int h = oldName("hand", Set.of());
          out.prints.add(new Print(p, h, of(VERDICTS)));
        }
      }
    }
  }

  // ---- the object

  private String tape = "";
  private Text t = null;
  private State now = null;
  private final List<State> undo = new ArrayList<>();
  private final List<State> images = new ArrayList<>();
  private int trouble = 0, fault = 0, place = -1;

  /** Refusals travel as exceptions here. */
  private static final class Refused extends RuntimeException {
    final int number;
    Refused(int number) { this.number = number; }
  }
  private static void need(boolean so, int number) { if (!so) throw new Refused(number); }
  private void open() { need(t != null, 1); }
  private int papers() { return t == null ? 0 : t.worths.size(); }
  private int stamps() { return t == null ? 0 : t.stamps.size(); }
  private int hands() { return t == null ? 0 : t.hands.size(); }
  private int rules() { return t == null ? 0 : t.rules.size(); }
  private int markCount() { return t == null ? 0 : t.marks.size(); }
  private static void in(int i, int n) { need(0 <= i && i < n, 1); }
  private static void verdictIs(int v) { need(0 <= v && v <= 2, 2); }

  private static final Set<String> QUIET = Set.of("feed", "fault", "where", "led", "size", "trouble");

  /** One call of the face by its name; booleans are 0 or 1, here and in the answer. */
  long call(String name, int[] a) {
    if (QUIET.contains(name)) return quiet(name, a);
    try {
      long got = loud(name, a);
      trouble = 0;
      return got;
    } catch (Refused r) {
      trouble = r.number;
      return Set.of("carve", "mark", "fill", "undo", "back").contains(name) ? 0 : -1;
    }
  }

  private long quiet(String name, int[] a) {
    switch (name) {
      case "feed": {
        if (tape.length() + 20 > 900) return -1;
        StringBuilder b = new StringBuilder(tape);
        for (int v : a) for (int k = 3; k >= 0; k--) b.append((char) (v >>> 8 * k & 255));
        tape = b.toString();
        return tape.length();
      }
      case "fault": return fault;
      case "where": return trouble == 4 ? place : -1;
      case "trouble": return trouble;
      case "led": {
        List<Integer> yes = new ArrayList<>();
        for (int p = 0; p < papers(); p++) if (Integer.valueOf(1).equals(now.latest[p])) yes.add(p);
        if (a[0] < 0 || a[0] >= yes.size()) throw new NoSuchElementException();
        return yes.get(a[0]);
      }
      default: {
        if (a[0] == 11) return tape.length();
        if (a[0] < 0 || a[0] > 11) return -1;
        if (t == null) return 0;
        int[] sizes = {t.birds, markCount(), papers(), stamps(), rules(), hands(), t.wants.size(), t.prints.size(),
            Arrays.stream(now.byStamp).sum(), undo.size(), images.size()};
        return sizes[a[0]];
      }
    }
  }

  private long loud(String name, int[] a) {
    switch (name) {
      case "office": return office(a[0]);
      case "paper":
        in(a[0], papers()); in(a[1], 4);
        return new Object[] {t.worths.get(a[0]), now.marks[a[0]], t.wants.getOrDefault(a[0], -2),
            now.latest[a[0]] == null ? -2 : now.latest[a[0]]}[a[1]] instanceof Integer i ? i : 0;
      case "stamp":
        in(a[0], stamps()); in(a[1], 5);
        return new int[] {now.ink[a[0]], t.stamps.get(a[0]).otherwise, t.stamps.get(a[0]).marks,
            (int) t.rules.stream().filter(r -> r.stamp == a[0]).count(), now.byStamp[a[0]]}[a[1]];
      case "hand":
        in(a[0], hands()); in(a[1], 3);
        return new int[] {t.hands.get(a[0]).kind, t.hands.get(a[0]).moody, now.byHand[a[0]]}[a[1]];
      case "rule":
        in(a[0], rules()); in(a[1], 4);
        Rule r = t.rules.get(a[0]);
        return new int[] {r.stamp, r.mark, r.not ? 1 : 0, now.verdict[a[0]]}[a[1]];
      case "says": in(a[0], stamps()); in(a[1], papers()); return say(a[0], now.marks[a[1]]);
      case "byRule": in(a[0], stamps()); in(a[1], papers()); return first(a[0], now.marks[a[1]]);
      case "saysOf": in(a[0], stamps()); in(a[1], 1 << markCount()); return say(a[0], a[1]);
      case "prints": all(a[0], a[1], a[2]); return print(a[1], say(a[0], now.marks[a[2]]));
      case "sayers": {
        in(a[0], papers()); verdictIs(a[1]);
        int bits = 0;
        for (int s = 0; s < stamps(); s++) if (say(s, now.marks[a[0]]) == a[1]) bits += 1 << s;
        return bits;
      }
      case "idleRules": {
        in(a[0], stamps());
        int bits = 0;
        for (int k = 0; k < rules(); k++) {
          boolean comes = t.rules.get(k).stamp != a[0];
          for (int set = 0; set < 1 << markCount(); set++) comes |= first(a[0], set) == k;
          if (!comes) bits += 1 << k;
        }
        return bits;
      }
      case "differ": {
        in(a[0], stamps()); in(a[1], stamps()); need(a[0] != a[1], 1);
        int n = 0;
        for (int set = 0; set < 1 << markCount(); set++) if (say(a[0], set) != say(a[1], set)) n++;
        return n;
      }
      case "kept": open(); return count(keep(-1));
      case "keptBy": in(a[0], papers()); return keep(-1)[a[0]];
      case "toFill": {
        open();
        int was = count(keep(-1));
        for (int s = 0; s < stamps(); s++) if (count(keep(s)) > was) return s;
        return -2;
      }
      case "worded": {
        open();
        for (int n = 0; n <= 5; n++)
          for (int set = 0; set < 1 << markCount(); set++)
            if (Integer.bitCount(set) == n && yes(set) == stamps()) return set;
        return -2;
      }
      case "reword": {
        in(a[0], papers()); in(a[1], stamps()); verdictIs(a[2]);
        for (int n = 0; n <= 5; n++)
          for (int set = 0; set < 1 << markCount(); set++)
            if (Integer.bitCount(set) == n && say(a[1], now.marks[a[0]] ^ set) == a[2]) return set;
        return -2;
      }
      case "bestMark": {
        in(a[0], papers());
        for (int more = 4; more > 0; more--)
          for (int m = 0; m < markCount(); m++)
            if (yes(now.marks[a[0]] ^ 1 << m) - yes(now.marks[a[0]]) == more) return m;
        return -2;
      }
      default: return loudToo(name, a);
    }
  }

  private long loudToo(String name, int[] a) {
    switch (name) {
      case "odds": in(a[0], stamps()); return part(weight(a[0]), sum(), a[1]);
      case "likeliest": {
        open();
        int best = -2;
        for (int s = stamps() - 1; s >= 0; s--)
          if (weight(s).signum() > 0 && (best < 0 || weight(s).compareTo(weight(best)) >= 0)) best = s;
        return best;
      }
      case "next": {
        in(a[0], papers()); in(a[1], hands()); verdictIs(a[2]);
        BigInteger up = BigInteger.ZERO;
        for (int s = 0; s < stamps(); s++) up = up.add(weight(s).multiply(chance(s, a[1], a[0], a[2])));
        return part(up, sum().multiply(BigInteger.valueOf(100)), a[3]);
      }
      case "laws": open(); return lawList().size();
      case "lawSays": {
        in(a[0], papers());
        int bits = 0;
        for (int[] law : lawList()) bits |= 1 << lawSay(law, now.marks[a[0]]);
        return bits;
      }
      case "tryNext": open(); return tries()[0];
      case "tryLeaves": open(); return tries()[1];
      case "judges":
        in(a[0], stamps()); in(a[1], stamps()); need(a[0] != a[1], 1);
        return say(a[0], t.stamps.get(a[1]).marks);
      case "good": open(); need(a[0] >= 0 && a[0] <= 20, 2); return bits(goodBehind(a[0]));
      case "settled":
        open();
        for (int n = 0; n <= 20; n++) if (Arrays.equals(goodBehind(n), goodBehind(n + 1))) return n;
        return -2;
      case "steady": {
        open();
        int n = 0;
        for (int set = 0; set < 1 << stamps(); set++) {
          boolean[] good = new boolean[stamps()];
          for (int s = 0; s < stamps(); s++) good[s] = (set >> s & 1) == 1;
          if (Arrays.equals(good, month(good))) n++;
        }
        return n;
      }
      case "has": in(a[0], stamps()); in(a[1], papers()); return has(a[0], a[1]);
      case "clerks": game(); return clerk()[0];
      case "clerkPicks": game(); return clerk()[1];
      case "applicants": {
        game();
        int most = -1;
        for (int p = 0; p < papers(); p++) {
          int least = 1000;
          for (int s = 0; s < stamps(); s++) least = Math.min(least, has(s, p));
          most = Math.max(most, least);
        }
        return most;
      }
      case "even": {
        game();
        int n = 0;
        for (int s = 0; s < stamps(); s++)
          for (int p = 0; p < papers(); p++) {
            boolean stays = true;
            for (int q = 0; q < papers(); q++) stays &= has(s, q) <= has(s, p);
            for (int u = 0; u < stamps(); u++) stays &= has(u, p) >= has(s, p);
            if (stays) n++;
          }
        return n;
      }
      case "sure":
        all(a[0], a[1], a[2]); verdictIs(a[3]);
        return part(chance(a[0], a[1], a[2], a[3]), BigInteger.valueOf(100), a[4]);
      case "mean": {
        in(a[0], stamps()); in(a[1], hands());
        BigInteger up = BigInteger.ZERO;
        for (int p = 0; p < papers(); p++)
          up = up.add(chance(a[0], a[1], p, 1).multiply(BigInteger.valueOf(t.worths.get(p))));
        return part(up, BigInteger.valueOf(100), a[2]);
      }
      case "presses": {
        open(); verdictIs(a[0]);
        return draws(a[1], a[2]).stream().filter(d -> d[1] == a[0]).count();
      }
      case "birds": open(); return draws(a[0], a[1]).stream().filter(d -> d[2] == 1).count();
      case "printed": {
        in(a[0], papers());
        int last = -2;
        for (int[] d : draws(a[1], a[2])) if (d[0] == a[0]) last = d[1];
        return last;
      }
      default: return act(name, a);
    }
  }

  private long act(String name, int[] a) {
    switch (name) {
      case "press": {
        all(a[0], a[1], a[2]); need(now.ink[a[0]] > 0, 6);
        int v = print(a[1], say(a[0], now.marks[a[2]]));
        before();
        now.ink[a[0]]--; now.byStamp[a[0]]++; now.byHand[a[1]]++; now.latest[a[2]] = v;
        return v;
      }
      case "carve":
        in(a[0], rules()); verdictIs(a[1]); need(now.verdict[a[0]] != a[1], 5);
        before(); now.verdict[a[0]] = a[1]; return 1;
      case "mark":
        in(a[0], papers()); in(a[1], markCount()); need((now.marks[a[0]] >> a[1] & 1) != a[2], 5);
        before(); now.marks[a[0]] += a[2] == 1 ? 1 << a[1] : -(1 << a[1]); return 1;
      case "fill":
        in(a[0], stamps()); need(a[1] >= 1 && a[1] <= 9, 2); need(now.ink[a[0]] < a[1], 5);
        before(); now.ink[a[0]] = a[1]; return 1;
      case "undo":
        need(!undo.isEmpty(), 6);
        now = undo.remove(undo.size() - 1); return 1;
      case "image":
        open(); need(images.size() < 3, 3);
        images.add(now.copy()); return images.size() - 1;
      case "back":
        in(a[0], images.size());
        now = images.get(a[0]).copy(); undo.clear(); return 1;
      default: throw new AssertionError(name);
    }
  }

  private void before() {
    undo.add(now.copy());
    if (undo.size() > 16) undo.remove(0);
  }

  private long office(int n) {
    need(n >= 0 && n <= tape.length(), 2);
    String text = tape.substring(0, n);
    tape = "";
    try {
      t = new Reading(text).read();
      fault = 0;
    } catch (Fault f) {
      fault = f.number;
      place = f.place;
      throw new Refused(4);
    }
    now = new State();
    now.marks = t.paperMarks.stream().mapToInt(i -> i).toArray();
    now.ink = t.stamps.stream().mapToInt(s -> s.ink).toArray();
    now.verdict = t.rules.stream().mapToInt(r -> r.verdict).toArray();
    now.byStamp = new int[stamps()];
    now.byHand = new int[hands()];
    now.latest = new Integer[papers()];
    undo.clear();
    images.clear();
    return papers();
  }

  // ---- reckoning

  private void all(int s, int h, int p) { in(s, stamps()); in(h, hands()); in(p, papers()); }

  private int first(int s, int set) {
    for (int k = 0; k < rules(); k++) {
      Rule r = t.rules.get(k);
      boolean there = (set >> r.mark & 1) == 1;
      if (r.stamp == s && (r.not ? !there : there)) return k;
    }
    return -2;
  }
  private int say(int s, int set) {
    int k = first(s, set);
    return k == -2 ? t.stamps.get(s).otherwise : now.verdict[k];
  }
  private int print(int h, int v) {
    return new int[][] {{0, 1, 2}, {0, 1, 1}, {0, 1, 0}, {1, 0, 2}}[t.hands.get(h).kind][v];
  }
  private int yes(int set) {
    int n = 0;
    for (int s = 0; s < stamps(); s++) if (say(s, set) == 1) n++;
    return n;
  }
  private BigInteger chance(int s, int h, int p, int v) {
    int n = 0;
    for (int d = 0; d < 100; d++) {
      int printed = d < t.hands.get(h).moody ? 2 : print(h, say(s, now.marks[p]));
      if (printed == v) n++;
    }
    return BigInteger.valueOf(n);
  }
  private BigInteger weight(int s) {
    BigInteger w = BigInteger.ONE;
    for (Print x : t.prints) w = w.multiply(chance(s, x.hand, x.paper, x.verdict));
    return w;
  }
  private BigInteger sum() {
    BigInteger w = BigInteger.ZERO;
    for (int s = 0; s < stamps(); s++) w = w.add(weight(s));
    return w;
  }
  private static long part(BigInteger up, BigInteger low, int lower) {
    if (low.signum() == 0) return lower;
    BigInteger g = up.gcd(low);
    return (lower == 1 ? low : up).divide(g).longValueExact();
  }

  /** Every way there is, in the order of the document, the first of the best. */
  private int[] keep(int more) {
    int[] at = new int[papers()];
    int[] best = null;
    int ways = stamps() * hands() + 1;
    long total = 1;
    for (int p = 0; p < papers(); p++) total *= ways;
    for (long w = 0; w < total; w++) {
      long rest = w;
      for (int p = papers() - 1; p >= 0; p--) {
        int way = (int) (rest % ways);
        rest /= ways;
        at[p] = way == ways - 1 ? -2 : 10 * (way / hands()) + way % hands();
      }
      if (allowed(at, more) && (best == null || count(at) > count(best))) best = at.clone();
    }
    return best;
  }
  private boolean allowed(int[] at, int more) {
    int[] byStamp = new int[4];
    int[] byHand = new int[3];
    for (int p = 0; p < at.length; p++) {
      if (at[p] < 0) continue;
      int s = at[p] / 10, h = at[p] % 10;
      if (!t.wants.containsKey(p) || ++byStamp[s] > now.ink[s] + (s == more ? 1 : 0) || ++byHand[h] > 2) return false;
      if (print(h, say(s, now.marks[p])) != t.wants.get(p)) return false;
    }
    return true;
  }
  private static int count(int[] at) { return (int) Arrays.stream(at).filter(x -> x >= 0).count(); }

  /** A law: mark (-1 for all), verdict if it is there, verdict if it isn't. */
  private List<int[]> lawList() {
    List<int[]> fit = new ArrayList<>();
    for (int m = -1; m < markCount(); m++)
      for (int is = 0; is < 3; is++)
        for (int isnt = 0; isnt < 3; isnt++) {
          int[] law = {m, is, isnt};
          if ((m < 0) == (is == isnt)
              && t.prints.stream().allMatch(x -> print(x.hand, lawSay(law, now.marks[x.paper])) == x.verdict)) fit.add(law);
        }
    return fit;
  }
  private static int lawSay(int[] law, int set) { return law[0] >= 0 && (set >> law[0] & 1) == 0 ? law[2] : law[1]; }
  private int[] tries() {
    List<int[]> fit = lawList();
    if (fit.isEmpty()) return new int[] {-2, -2};
    int[] best = {-2, 1000};
    for (int p = 0; p < papers(); p++) {
      int[] left = new int[3];
      for (int[] law : fit) left[lawSay(law, now.marks[p])]++;
      int most = Arrays.stream(left).max().getAsInt();
      if (most < best[1]) best = new int[] {p, most};
    }
    return best;
  }

  private boolean[] month(boolean[] good) {
    boolean[] after = good.clone();
    for (int x = 0; x < good.length; x++) {
      int yes = 0, no = 0;
      for (int j = 0; j < good.length; j++) {
        if (j == x || !good[j]) continue;
        int v = say(j, t.stamps.get(x).marks);
        if (v == 1) yes++;
        if (v == 0) no++;
      }
      if (yes > no) after[x] = true;
      if (yes < no) after[x] = false;
    }
    return after;
  }
  private boolean[] goodBehind(int months) {
    boolean[] good = new boolean[stamps()];
    Arrays.fill(good, true);
    for (int n = 0; n < months; n++) good = month(good);
    return good;
  }
  private static int bits(boolean[] set) {
    int bits = 0;
    for (int i = 0; i < set.length; i++) if (set[i]) bits += 1 << i;
    return bits;
  }

  private void game() { open(); need(stamps() > 0, 6); }
  private int has(int s, int p) {
    int v = say(s, now.marks[p]);
    return v == 0 ? 0 : t.worths.get(p) / v;
  }
  private int[] clerk() {
    int[] best = {1000, -1};
    for (int s = 0; s < stamps(); s++) {
      int most = 0;
      for (int p = 0; p < papers(); p++) most = Math.max(most, has(s, p));
      if (most < best[0]) best = new int[] {most, s};
    }
    return best;
  }

  /** Each press as paper, verdict, bird. */
  private List<int[]> draws(int seed, int n) {
    need(seed >= 0 && seed <= 65536 && n >= 0 && n <= 90, 2);
    need(stamps() > 0 && hands() > 0, 6);
    long[] x = {seed};
    java.util.function.LongSupplier draw = () -> x[0] = (75 * x[0] + 74) % 65537;
    List<int[]> out = new ArrayList<>();
    for (int i = 0; i < n; i++) {
      int s = (int) (draw.getAsLong() % stamps());
      int h = (int) (draw.getAsLong() % hands());
      int p = (int) (draw.getAsLong() % papers());
      int v = draw.getAsLong() % 100 < t.hands.get(h).moody ? 2 : print(h, say(s, now.marks[p]));
      int bird = v == 2 && draw.getAsLong() % 100 < t.birds ? 1 : 0;
      out.add(new int[] {p, v, bird});
    }
    return out;
  }
}
