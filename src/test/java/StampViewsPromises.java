import java.util.NoSuchElementException;

/** For each promise of the document: ordinary inputs, the edges it names, wrong inputs. Answers are reckoned by hand. */
public final class StampViewsPromises {
  private static int passed = 0;
  private static int failed = 0;
  private static int promise = 0;

  /** Marks widow 0, tram 1, seal 2; papers p {widow}, q {tram, seal}, r {}; stamps s, t, u; hands a, b, c. */
  private static final String TOWN = "office birds 50;mark widow;mark tram;mark seal;"
      + "paper p worth 40,widow;paper q worth 60,tram,seal;paper r worth 9;"
      + "stamp s ink 1 else no,seal;stamp t ink 2 else yes,tram;stamp u ink 0 else faint;"
      + "rule s widow yes;rule t tram no;rule s not seal faint;rule t not widow yes;rule s seal yes;"
      + "hand a straight moody 20;hand b kind moody 0;hand c cross moody 0;"
      + "want p yes;want q yes;want r no;print q a no;print p b yes";
  private static final String BARE = "office birds 7;paper p worth 5";

  public static void main(String[] args) {
    promise1();
    promise2();
    promise3();
    promise4();
    promise5();
    faultsOfForm();
    faultsOfNames();
    faultsOfNumbersAndRoom();
    promise6();
    promise7();
    promise8();
    promise9();
    promise10();
    promise11();
    promise12();
    promise13();
    promise14();
    promise15();
    promise16();
    promise17();
    promise18();
    promise19();
    promise20();
    promise21();
    promise22();
    promise23();
    promise24();
    promise25();
    promise26();
    promise27();
    promise28();
    promise29();
    promise30();
    promise31();
    promise32();
    promise33();
    promise34();
    promise35();
    promise36();
    promise37();
    promise38();
    promise39();
    promise40();
    promise41();
    promise42();
    promise43();
    promise44();
    promise45();
    promise46();
    promise47();
    promise48();
    promise49();
    promise50();
    promise51();
    promise52();
    promise53();
    System.out.println(passed + " passed, " + failed + " failed");
    if (failed != 0) System.exit(1);
  }

  private static void due(String what, long got, long want) {
    if (got == want) {
      passed++;
    } else {
      failed++;
      System.out.println("promise " + promise + ": " + what + " is " + got + ", due is " + want);
    }
  }

  /** The call before was refused by this number. */
  private static void refused(StampViews x, long got, int number) {
    due("a refused call", got, -1);
    due("its trouble", x.trouble(), number);
  }

  private static void denied(StampViews x, boolean got, int number) {
    due("a denied act", got ? 1 : 0, 0);
    due("its trouble", x.trouble(), number);
  }

  private static void done(StampViews x, boolean got) {
    due("an act", got ? 1 : 0, 1);
    due("its trouble", x.trouble(), 0);
  }

  private static void part(String what, long upper, long lower, long dueUpper, long dueLower) {
    due(what + ", upper", upper, dueUpper);
    due(what + ", lower", lower, dueLower);
  }

  private static void feedAll(StampViews x, String text) {
    StringBuilder b = new StringBuilder(text);
    while (b.length() % 20 != 0) b.append(' ');
    for (int i = 0; i < b.length(); i += 20) {
      int[] a = new int[5];
      for (int k = 0; k < 20; k++) a[k / 4] = a[k / 4] << 8 | b.charAt(i + k);
      x.feed(a[0], a[1], a[2], a[3], a[4]);
    }
  }

  private static int tell(StampViews x, String text) {
    feedAll(x, text);
    return x.office(text.length());
  }

  private static StampViews at(String text) {
    StampViews x = new StampViews();
    if (tell(x, text) < 0) {
      failed++;
      System.out.println("promise " + promise + ": fault " + x.fault() + " at " + x.where() + " of " + text);
    }
    return x;
  }

  private static void faulty(String text, int fault, int place) {
    StampViews x = new StampViews();
    refused(x, tell(x, text), 4);
    due("the fault of '" + text + "'", x.fault(), fault);
    due("the place in '" + text + "'", x.where(), place);
  }

  private static void faultless(String text, int papers) {
    StampViews x = new StampViews();
    due("the papers of '" + text + "'", tell(x, text), papers);
    due("the fault of '" + text + "'", x.fault(), 0);
  }

  private static boolean hasNoLed(StampViews x, int i) {
    try {
      x.led(i);
      return false;
    } catch (NoSuchElementException e) {
      return true;
    }
  }

  private static void promise1() {
    promise = 1;
    StampViews x = new StampViews();
    for (int what = 0; what <= 11; what++) due("size " + what, x.size(what), 0);
    due("trouble", x.trouble(), 0);
    due("fault", x.fault(), 0);
    due("where", x.where(), -1);
    refused(x, x.paper(0, 0), 1);
    refused(x, x.stamp(0, 0), 1);
    refused(x, x.hand(0, 0), 1);
    refused(x, x.rule(0, 0), 1);
    refused(x, x.kept(), 1);
    refused(x, x.worded(), 1);
    refused(x, x.laws(), 1);
    denied(x, x.undo(), 6);
    refused(x, x.image(), 1);
    denied(x, x.back(0), 1);
    due("NONE", StampViews.NONE, -1);
  }

  private static void promise2() {
    promise = 2;
    StampViews x = new StampViews();
    for (int i = 1; i <= 45; i++) due("bytes", x.feed(0x20202020, 0x20202020, 0x20202020, 0x20202020, 0x20202020), 20 * i);
    due("one too many", x.feed(0, 0, 0, 0, 0), -1);
    due("trouble, of which no number is told", x.trouble(), 0);
    due("size", x.size(11), 900);
    refused(x, x.office(901), 2);
    due("feed leaves trouble", x.feed(0, 0, 0, 0, 0), -1);
    due("trouble of the call ahead", x.trouble(), 2);
    StampViews y = new StampViews();
    y.feed('o' << 24 | 'f' << 16 | 'f' << 8 | 'i', 'c' << 24 | 'e' << 16 | ' ' << 8 | 'b', 'i' << 24 | 'r' << 16 | 'd' << 8 | 's',
        '7' << 24 | ';' << 16 | 'p' << 8 | 'a', 'p' << 24 | 'e' << 16 | 'r' << 8 | 'p');
    y.feed('w' << 24 | 'o' << 16 | 'r' << 8 | 't', -1, -1, -1, -1);
    refused(y, y.office(21), 4);
    due("the highest byte comes first: 'paperpw' where a line must stand", y.where(), 14);
    StampViews z = new StampViews();
    z.feed(0xE1E1E1E1, 0, 0, 0, 0);
    refused(z, z.office(1), 4);
    due("a byte above 127 is none of a token", z.fault() * 100 + z.where(), 100);
  }

  private static void promise3() {
    promise = 3;
    StampViews x = new StampViews();
    refused(x, x.office(-1), 2);
    refused(x, x.office(1), 2);
    feedAll(x, BARE);
    refused(x, x.office(41), 2);
    due("the tape stays", x.size(11), 40);
    due("papers", x.office(30), 1);
    due("trouble", x.trouble(), 0);
    due("the tape is empty", x.size(11), 0);
    due("birds", x.size(0), 7);
    tell(x, TOWN);
    x.press(0, 0, 0);
    x.image();
    due("a fault", tell(x, "office birds 1;paper p"), -1);
    due("the tape is empty then, too", x.size(11), 0);
    due("the office stays", x.size(2), 3);
    due("acts stay", x.size(9), 1);
    due("images stay", x.size(10), 1);
    due("marks stay", x.paper(1, 1), 6);
    due("ink stays", x.stamp(0, 0), 0);
    due("the same office anew", tell(x, TOWN), 3);
    due("ink anew", x.stamp(0, 0), 1);
    due("nothing pressed", x.size(8) + x.stamp(0, 4) + x.hand(0, 2), 0);
    due("nothing printed", x.paper(0, 3), -2);
    due("nothing to undo", x.size(9), 0);
    due("no images", x.size(10), 0);
    due("the second paper is not there in a smaller office", tell(x, BARE), 1);
    due("no marks are left", x.paper(0, 1), 0);
    due("no want is left", x.paper(0, 2), -2);
    for (int what = 1; what <= 10; what++) due("size " + what + " of the smaller one", x.size(what), what == 2 ? 1 : 0);
    refused(x, x.stamp(0, 0), 1);
    feedAll(x, BARE + "5;mark a");
    due("only the first n bytes", x.office(30), 1);
    due("worth", x.paper(0, 0), 5);
  }

  private static void promise4() {
    promise = 4;
    StampViews x = new StampViews();
    tell(x, "paper p");
    due("fault", x.fault(), 6);
    refused(x, x.office(99), 2);
    due("the fault stays behind one refused by 2", x.fault(), 6);
    tell(x, BARE);
    due("no fault", x.fault(), 0);
  }

  private static void promise5() {
    promise = 5;
    StampViews x = new StampViews();
    tell(x, "office birds 5;mark a;mark a");
    due("where", x.where(), 27);
    due("where again", x.where(), 27);
    x.feed(0, 0, 0, 0, 0);
    x.size(99);
    due("behind calls of which no number is told", x.where(), 27);
    x.kept();
    due("behind a call refused by 1", x.where(), -1);
    due("the fault is still told", x.fault(), 3);
    x.office(0);
    due("the end of an empty text", x.where(), 0);
    tell(x, BARE);
    due("behind a good one", x.where(), -1);
  }

  private static void faultsOfForm() {
    promise = 3;
    faulty("", 1, 0);
    faulty("   ", 1, 3);
    faulty("office", 1, 6);
    faulty("office  ", 1, 8);
    faulty("officebirds", 1, 0);
    faulty("office birds", 1, 12);
    faulty("office birds x", 1, 13);
    faulty("office birds 5;", 1, 15);
    faulty("office birds 5 paper", 1, 15);
    faulty("office birds 5,", 1, 14);
    faulty("office office", 1, 7);
    faulty("Office birds 5", 1, 0);
    faulty("office birds 1000", 1, 13);
    faulty("office birds 5;not", 1, 15);
    faulty("office birds 5;birds", 1, 15);
    faulty("office birds 5;mark mark", 1, 20);
    faulty("office birds 5;mark abcdefghi", 1, 20);
    faulty("office birds 5;mark office", 1, 20);
    faulty("office birds 5;want office", 1, 20);
    faulty("office birds 5;want print", 1, 20);
    faulty("office birds 5;mark 5", 1, 20);
    faulty("office birds 5;mark a-", 1, 21);
    faulty("office birds 5;mark a,", 1, 21);
    faulty("office birds 5;mark a;paper p worth 5,", 1, 38);
    faulty("office birds 5;mark a;paper p worth 5,,", 1, 38);
    faulty("office birds 5;mark a;paper p worth 5,not", 1, 38);
    faulty("office birds 5;paper p worth 5;stamp s ink 1 else no;rule s not not", 1, 64);
    faulty("office birds 5;paper p worth 5;hand h kind 5", 1, 43);
    faultless(BARE, 1);
    faultless("  office  birds007 ; paper abcdefgh worth 0  ", 1);
    faultless("office birds 100;mark yes;paper no worth 99,yes;stamp faint ink 9 else yes,yes;rule faint yes no;"
        + "rule faint not yes faint;hand birds cross moody 100;want no no;print no birds no", 1);
  }

  private static void faultsOfNames() {
    faulty("office birds 5;paper p worth 5,m", 2, 31);
    faulty("office birds 5;paper p worth 5,p", 2, 31);
    faulty("office birds 5;rule s", 2, 20);
    faulty("office birds 5;want p", 2, 20);
    faulty("office birds 5;print p", 2, 21);
    faulty("office birds 5;paper p worth 5;print p p", 2, 39);
    faulty("office birds 5;paper p worth 5;stamp s ink 1 else no,s", 2, 53);
    faulty("office birds 5;paper p worth 5;stamp s ink 1 else no;rule s not s", 2, 64);
    faulty("office birds 5;mark a;paper a", 3, 28);
    faulty("office birds 5;paper a worth 1;hand a", 3, 36);
    faulty("office birds 5;mark a;paper p worth 5,a,a", 3, 40);
    faulty("office birds 5;mark a;stamp s ink 1 else no,a,a", 3, 46);
    faulty("office birds 5;paper p worth 5;want p no;want p", 3, 46);
    faulty("office birds 5;office", 3, 15);
    faulty("mark a", 6, 0);
    faulty(" rule", 6, 1);
    faulty("office birds 5", 6, 14);
    faulty("office birds 5;mark a  ", 6, 23);
  }

  private static void faultsOfNumbersAndRoom() {
    faulty("office birds 101", 4, 13);
    faulty("office birds 5;paper p worth 100", 4, 29);
    faulty("office birds 5;stamp s ink 10", 4, 27);
    faulty("office birds 5;hand h stern moody 101", 4, 34);
    faulty("office birds 5;mark a;mark b;mark c;mark d;mark e;mark", 5, 50);
    StringBuilder papers = new StringBuilder("office birds 5");
    for (char c = 'a'; c <= 'e'; c++) papers.append(";paper ").append(c).append(" worth 1");
    faultless(papers.toString(), 5);
    faulty(papers + ";paper a", 5, papers.length() + 1);
    StringBuilder stamps = new StringBuilder("office birds 5;mark m;paper p worth 5");
    for (char c = 'a'; c <= 'd'; c++) stamps.append(";stamp ").append(c).append(" ink 1 else no");
    faultless(stamps.toString(), 1);
    faulty(stamps + ";stamp", 5, stamps.length() + 1);
    for (int i = 0; i < 10; i++) stamps.append(";rule a m no");
    faultless(stamps.toString(), 1);
    faulty(stamps + ";rule", 5, stamps.length() + 1);
    StringBuilder hands = new StringBuilder(BARE);
    for (char c = 'a'; c <= 'c'; c++) hands.append(";hand ").append(c).append(" kind moody 1");
    faultless(hands.toString(), 1);
    faulty(hands + ";hand", 5, hands.length() + 1);
    for (int i = 0; i < 4; i++) hands.append(";print p a no");
    faultless(hands.toString(), 1);
    faulty(hands + ";print", 5, hands.length() + 1);
  }

  private static void promise6() {
    promise = 6;
    StampViews x = at(TOWN);
    due("worth", x.paper(1, 0), 60);
    due("marks", x.paper(1, 1), 6);
    due("no marks", x.paper(2, 1), 0);
    due("want yes", x.paper(0, 2), 1);
    due("want no", x.paper(2, 2), 0);
    due("no want", at(BARE).paper(0, 2), -2);
    due("printed never", x.paper(0, 3), -2);
    x.press(0, 2, 0);
    due("printed", x.paper(0, 3), 0);
    x.mark(0, 1, true);
    due("marks now", x.paper(0, 1), 3);
    refused(x, x.paper(3, 0), 1);
    refused(x, x.paper(-1, 0), 1);
    refused(x, x.paper(0, 4), 1);
    refused(x, x.paper(0, -1), 1);
    due("the last", x.paper(2, 0), 9);
    due("trouble", x.trouble(), 0);
  }

  private static void promise7() {
    promise = 7;
    StampViews x = at(TOWN);
    due("ink", x.stamp(1, 0), 2);
    due("else no", x.stamp(0, 1), 0);
    due("else yes", x.stamp(1, 1), 1);
    due("else faint", x.stamp(2, 1), 2);
    due("own marks", x.stamp(0, 2), 4);
    due("rules", x.stamp(0, 3), 3);
    due("no rules", x.stamp(2, 3), 0);
    x.press(1, 0, 0);
    x.press(1, 1, 1);
    due("ink now", x.stamp(1, 0), 0);
    due("pressed", x.stamp(1, 4), 2);
    due("another's", x.stamp(0, 4), 0);
    refused(x, x.stamp(3, 0), 1);
    refused(x, x.stamp(-1, 0), 1);
    refused(x, x.stamp(0, 5), 1);
    refused(x, x.stamp(0, -1), 1);
  }

  private static void promise8() {
    promise = 8;
    StampViews x = at(TOWN);
    due("straight", x.hand(0, 0), 0);
    due("kind", x.hand(1, 0), 1);
    due("cross", x.hand(2, 0), 3);
    due("stern", at("office birds 0;paper p worth 1;hand h stern moody 3").hand(0, 0), 2);
    due("moody", x.hand(0, 1), 20);
    x.press(1, 1, 0);
    x.press(0, 1, 0);
    due("pressed", x.hand(1, 2), 2);
    due("another's", x.hand(0, 2), 0);
    refused(x, x.hand(3, 0), 1);
    refused(x, x.hand(-1, 0), 1);
    refused(x, x.hand(0, 3), 1);
    refused(x, x.hand(0, -1), 1);
  }

  private static void promise9() {
    promise = 9;
    StampViews x = at(TOWN);
    due("stamp", x.rule(1, 0), 1);
    due("mark", x.rule(4, 1), 2);
    due("not", x.rule(2, 2), 1);
    due("not not", x.rule(1, 2), 0);
    due("verdict", x.rule(2, 3), 2);
    x.carve(2, 0);
    due("verdict now", x.rule(2, 3), 0);
    refused(x, x.rule(5, 0), 1);
    refused(x, x.rule(-1, 0), 1);
    refused(x, x.rule(0, 4), 1);
    refused(x, x.rule(0, -1), 1);
  }

  private static void promise10() {
    promise = 10;
    StampViews x = at(TOWN);
    int[][] said = {{1, 1, 2}, {1, 0, 1}, {2, 2, 2}};
    for (int s = 0; s < 3; s++) for (int p = 0; p < 3; p++) due("says " + s + " " + p, x.says(s, p), said[s][p]);
    x.mark(2, 2, true);
    due("by marks now", x.says(0, 2), 1);
    x.carve(4, 0);
    due("by rules now", x.says(0, 2), 0);
    refused(x, x.says(3, 0), 1);
    refused(x, x.says(-1, 0), 1);
    refused(x, x.says(0, 3), 1);
    refused(x, x.says(0, -1), 1);
  }

  private static void promise11() {
    promise = 11;
    StampViews x = at(TOWN);
    int[][] by = {{0, 4, 2}, {-2, 1, 3}, {-2, -2, -2}};
    for (int s = 0; s < 3; s++) for (int p = 0; p < 3; p++) due("byRule " + s + " " + p, x.byRule(s, p), by[s][p]);
    refused(x, x.byRule(3, 0), 1);
    refused(x, x.byRule(0, 3), 1);
    refused(x, x.byRule(-1, -1), 1);
  }

  private static void promise12() {
    promise = 12;
    StampViews x = at(TOWN);
    int[] ofS = {2, 1, 2, 1, 1, 1, 1, 1};
    int[] ofT = {1, 1, 0, 0, 1, 1, 0, 0};
    for (int set = 0; set < 8; set++) {
      due("s of " + set, x.saysOf(0, set), ofS[set]);
      due("t of " + set, x.saysOf(1, set), ofT[set]);
    }
    refused(x, x.saysOf(0, 8), 1);
    refused(x, x.saysOf(0, -1), 1);
    refused(x, x.saysOf(3, 0), 1);
    StampViews y = at(BARE + ";stamp s ink 0 else faint");
    due("no marks", y.saysOf(0, 0), 2);
    refused(y, y.saysOf(0, 1), 1);
  }

  private static void promise13() {
    promise = 13;
    StampViews x = at("office birds 0;mark y;mark n;paper a worth 1,n;paper b worth 1,y;paper c worth 1;"
        + "stamp s ink 0 else faint;rule s y yes;rule s n no;hand h stern moody 100;hand k kind moody 100;hand d cross moody 1");
    int[][] printed = {{0, 1, 0}, {0, 1, 1}, {1, 0, 2}};
    for (int h = 0; h < 3; h++) for (int p = 0; p < 3; p++) due("prints " + h + " " + p, x.prints(0, h, p), printed[h][p]);
    due("straight prints faint", at(TOWN).prints(2, 0, 0), 2);
    refused(x, x.prints(1, 0, 0), 1);
    refused(x, x.prints(0, 3, 0), 1);
    refused(x, x.prints(0, 0, 3), 1);
    refused(x, x.prints(0, -1, 0), 1);
  }

  private static void promise14() {
    promise = 14;
    StampViews x = at(TOWN);
    due("yes of p", x.sayers(0, 1), 3);
    due("faint of r", x.sayers(2, 2), 5);
    due("no of p", x.sayers(0, 0), 0);
    due("no stamps", at(BARE).sayers(0, 0), 0);
    refused(x, x.sayers(3, 0), 1);
    refused(x, x.sayers(-1, 3), 1);
    refused(x, x.sayers(0, 3), 2);
    refused(x, x.sayers(0, -1), 2);
  }

  private static void promise15() {
    promise = 15;
    StampViews x = at("office birds 0;mark m;mark n;paper p worth 5,m;stamp s ink 0 else no;stamp t ink 0 else no;"
        + "rule s m yes;rule t m no;rule s m no;rule s not n no;rule s n faint;rule s m yes;rule t not n yes");
    due("idle of s", x.idleRules(0), 4 + 32);
    due("idle of t", x.idleRules(1), 0);
    due("none in town", at(TOWN).idleRules(0), 0);
    due("none at all", at(TOWN).idleRules(2), 0);
    refused(x, x.idleRules(2), 1);
    refused(x, x.idleRules(-1), 1);
  }

  private static void promise16() {
    promise = 16;
    StampViews x = at(TOWN);
    due("s and t", x.differ(0, 1), 5);
    due("t and s", x.differ(1, 0), 5);
    due("s and u", x.differ(0, 2), 6);
    due("alike", at(BARE + ";stamp s ink 1 else no;stamp t ink 2 else no").differ(0, 1), 0);
    refused(x, x.differ(0, 0), 1);
    refused(x, x.differ(0, 3), 1);
    refused(x, x.differ(-1, 0), 1);
  }

  /** Five papers that want yes, and stamps that all say yes of all. */
  private static String five(String stampsAndHands) {
    StringBuilder b = new StringBuilder("office birds 0");
    for (char c = 'a'; c <= 'e'; c++) b.append(";paper ").append(c).append(" worth 1");
    b.append(';').append(stampsAndHands);
    for (char c = 'a'; c <= 'e'; c++) b.append(";want ").append(c).append(" yes");
    return b.toString();
  }

  private static void promise17() {
    promise = 17;
    StampViews x = at(TOWN);
    due("all three", x.kept(), 3);
    x.press(1, 0, 0);
    due("with less ink: s keeps p or q, t keeps q or r", x.kept(), 2);
    x.press(1, 0, 0);
    due("with s alone", x.kept(), 1);
    x.press(0, 0, 0);
    due("with none", x.kept(), 0);
    due("a hand twice", at(five("stamp s ink 9 else yes;hand h straight moody 100")).kept(), 2);
    due("two hands", at(five("stamp s ink 9 else yes;hand h straight moody 0;hand i kind moody 0")).kept(), 4);
    due("three hands", at(five("stamp s ink 9 else yes;hand h straight moody 0;hand i kind moody 0;hand j stern moody 0")).kept(), 5);
    due("the ink of stamps", at(five("stamp s ink 1 else yes;stamp t ink 2 else no;hand h straight moody 0;hand i cross moody 0")).kept(), 3);
    due("no hands", at(five("stamp s ink 9 else yes")).kept(), 0);
    due("nothing wanted", at(BARE).kept(), 0);
    StampViews none = new StampViews();
    refused(none, none.kept(), 1);
  }

  private static void promise18() {
    promise = 18;
    StampViews x = at(TOWN);
    due("p", x.keptBy(0), 0);
    due("q", x.keptBy(1), 12);
    due("r", x.keptBy(2), 12);
    StampViews y = at(five("stamp s ink 1 else yes;stamp t ink 2 else yes;hand h straight moody 0;hand i kind moody 0"));
    due("a", y.keptBy(0), 0);
    due("b", y.keptBy(1), 10);
    due("c", y.keptBy(2), 11);
    due("d", y.keptBy(3), -2);
    due("e", y.keptBy(4), -2);
    StampViews z = at("office birds 0;mark m;paper a worth 1;paper b worth 1,m;stamp s ink 1 else yes;stamp t ink 1 else yes;"
        + "rule t m no;hand h straight moody 0;want a yes;want b yes");
    due("the first gives way, that more wants are kept", z.keptBy(0), 10);
    due("the second", z.keptBy(1), 0);
    due("no want", at(BARE).keptBy(0), -2);
    refused(x, x.keptBy(3), 1);
    refused(x, x.keptBy(-1), 1);
  }

  private static void promise19() {
    promise = 19;
    due("all are kept", at(TOWN).toFill(), -2);
    StampViews x = at(five("stamp s ink 0 else no;stamp t ink 0 else yes;stamp u ink 0 else yes;hand h straight moody 0"));
    due("the first by which more", x.toFill(), 1);
    x.fill(1, 2);
    due("hands are used up", x.toFill(), -2);
    due("nothing wanted", at(BARE + ";stamp s ink 0 else yes;hand h kind moody 0").toFill(), -2);
    due("no stamp", at(BARE).toFill(), -2);
    StampViews none = new StampViews();
    refused(none, none.toFill(), 1);
  }

  private static void promise20() {
    promise = 20;
    due("never", at(TOWN).worded(), -2);
    due("no stamps", at(BARE).worded(), 0);
    StampViews x = at("office birds 0;mark a;mark b;mark c;paper p worth 1;stamp s ink 0 else no;stamp t ink 0 else no;"
        + "rule s c yes;rule s b yes;rule t a no;rule t b yes;rule t c yes");
    due("b or c: the least bits", x.worded(), 2);
    x.carve(3, 0);
    due("c alone", x.worded(), 4);
    x.carve(4, 0);
    due("none left", x.worded(), -2);
    StampViews y = at("office birds 0;mark a;mark b;mark c;paper p worth 1;stamp s ink 0 else no;stamp t ink 0 else no;"
        + "rule s a yes;rule s c yes;rule t b yes;rule t c yes");
    due("one mark, though of higher bits than two", y.worded(), 4);
    StampViews none = new StampViews();
    refused(none, none.worded(), 1);
  }

  private static void promise21() {
    promise = 21;
    StampViews x = at(TOWN);
    due("taken off", x.reword(0, 0, 2), 1);
    due("put on", x.reword(0, 1, 0), 2);
    due("as it is", x.reword(0, 0, 1), 0);
    due("never", x.reword(0, 2, 1), -2);
    due("put on r: widow or seal", x.reword(2, 0, 1), 1);
    due("taken off q", x.reword(1, 0, 2), 4);
    refused(x, x.reword(3, 0, 0), 1);
    refused(x, x.reword(0, 3, 3), 1);
    refused(x, x.reword(0, 0, 3), 2);
    refused(x, x.reword(0, 0, -1), 2);
  }

  private static void promise22() {
    promise = 22;
    StampViews x = at(TOWN);
    due("tram off q", x.bestMark(1), 1);
    due("p has all it can", x.bestMark(0), -2);
    due("widow on r", x.bestMark(2), 0);
    StampViews y = at("office birds 0;mark a;mark b;mark c;paper p worth 1;stamp s ink 0 else no;stamp t ink 0 else no;"
        + "rule s a yes;rule s b yes;rule t b yes;rule s c yes;rule t c yes");
    due("most stamps, the first such", y.bestMark(0), 1);
    StampViews z = at("office birds 0;mark a;paper p worth 1;stamp s ink 0 else no;stamp t ink 0 else yes;rule s a yes;rule t a no");
    due("one more and one less", z.bestMark(0), -2);
    due("no marks", at(BARE).bestMark(0), -2);
    refused(x, x.bestMark(3), 1);
    refused(x, x.bestMark(-1), 1);
  }

  /** Says yes, no and faint of all; prints are by a hand in its mood 30 of 100 times. */
  private static String three(String prints) {
    return "office birds 0;mark m;paper p worth 1;stamp s ink 0 else yes;stamp t ink 0 else no;stamp u ink 0 else faint;"
        + "hand h straight moody 30;hand k kind moody 50;hand z straight moody 0" + prints;
  }

  private static void promise23() {
    promise = 23;
    StampViews x = at(three(";print p h faint"));
    part("30 of 30, 30, 100", x.odds(0, false), x.odds(0, true), 3, 16);
    x.says(9, 9);
    x.odds(2, false);
    due("trouble", x.trouble(), 0);
    part("100 of 30, 30, 100", x.odds(2, false), x.odds(2, true), 5, 8);
    StampViews y = at(three(";print p k yes;print p h faint"));
    part("50 by 30 of 50 by 30, 0, 50 by 100", y.odds(0, false), y.odds(0, true), 3, 13);
    part("it can't be", y.odds(1, false), y.odds(1, true), 0, 1);
    StampViews z = at(three(";print p z yes;print p z no"));
    part("nothing can be", z.odds(0, false), z.odds(0, true), 0, 1);
    StampViews w = at(three(""));
    part("no prints", w.odds(1, false), w.odds(1, true), 1, 3);
    refused(x, x.odds(3, false), 1);
    refused(x, x.odds(-1, true), 1);
    StampViews v = at("office birds 0;mark m;paper p worth 1;stamp s ink 0 else yes;stamp t ink 0 else no;rule t m yes;"
        + "hand h straight moody 0;print p h yes");
    part("as papers are now", v.odds(0, false), v.odds(0, true), 1, 1);
    v.mark(0, 0, true);
    part("as papers are then", v.odds(0, false), v.odds(0, true), 1, 2);
  }

  private static void promise24() {
    promise = 24;
    due("u", at(three(";print p h faint")).likeliest(), 2);
    due("u by 5000", at(three(";print p k yes;print p h faint")).likeliest(), 2);
    due("the first", at(three("")).likeliest(), 0);
    due("none", at(three(";print p z yes;print p z no")).likeliest(), -2);
    due("no stamp", at(BARE).likeliest(), -2);
    StampViews none = new StampViews();
    refused(none, none.likeliest(), 1);
  }

  private static void promise25() {
    promise = 25;
    StampViews x = at(three(";print p h faint"));
    part("yes by h: 3/16 of 70", x.next(0, 0, 1, false), x.next(0, 0, 1, true), 21, 160);
    part("faint by h", x.next(0, 0, 2, false), x.next(0, 0, 2, true), 59, 80);
    part("yes by k: 13/16 of 50", x.next(0, 1, 1, false), x.next(0, 1, 1, true), 13, 32);
    StampViews z = at(three(";print p z yes;print p z no"));
    part("nothing can be", z.next(0, 0, 2, false), z.next(0, 0, 2, true), 0, 1);
    StampViews w = at(BARE + ";hand h kind moody 0");
    part("no stamp", w.next(0, 0, 2, false), w.next(0, 0, 2, true), 0, 1);
    refused(x, x.next(1, 0, 0, false), 1);
    refused(x, x.next(0, 3, 7, false), 1);
    refused(x, x.next(0, 0, 3, false), 2);
    refused(x, x.next(0, 0, -1, true), 2);
  }

  private static void promise26() {
    promise = 26;
    due("town", at(TOWN).laws(), 6);
    due("no marks", at(BARE).laws(), 3);
    due("five marks, no prints", at("office birds 0;mark a;mark b;mark c;mark d;mark e;paper p worth 1").laws(), 33);
    StampViews x = at("office birds 0;mark m;paper a worth 1,m;paper b worth 1;hand h cross moody 99;hand k kind moody 0;print a h no;print b k yes");
    due("yes for all; m: yes, else faint", x.laws(), 2);
    due("moods aside: a stern hand prints no faint", at(BARE + ";hand h stern moody 100;print p h faint").laws(), 0);
    due("no for all", at(BARE + ";hand h straight moody 0;print p h no").laws(), 1);
    x.mark(1, 0, true);
    due("as papers are now: yes for all; m: yes, else two", x.laws(), 3);
    StampViews none = new StampViews();
    refused(none, none.laws(), 1);
  }

  private static void promise27() {
    promise = 27;
    StampViews x = at(TOWN);
    due("p", x.lawSays(0), 6);
    due("q", x.lawSays(1), 1);
    due("r", x.lawSays(2), 7);
    due("one law", at(BARE + ";hand h straight moody 0;print p h no").lawSays(0), 1);
    due("no laws", at(BARE + ";hand h stern moody 100;print p h faint").lawSays(0), 0);
    refused(x, x.lawSays(3), 1);
    refused(x, x.lawSays(-1), 1);
  }

  private static void promise28() {
    promise = 28;
    due("town", at(TOWN).tryNext(), 2);
    due("one paper", at(BARE).tryNext(), 0);
    due("the first of like ones", at("office birds 0;mark a;paper p worth 1;paper q worth 1,a").tryNext(), 0);
    due("none", at(BARE + ";hand h stern moody 100;print p h faint").tryNext(), -2);
    StampViews none = new StampViews();
    refused(none, none.tryNext(), 1);
  }

  private static void promise29() {
    promise = 29;
    due("town", at(TOWN).tryLeaves(), 2);
    due("one paper", at(BARE).tryLeaves(), 1);
    due("nine laws by three", at("office birds 0;mark a;paper p worth 1;paper q worth 1,a").tryLeaves(), 3);
    due("none", at(BARE + ";hand h stern moody 100;print p h faint").tryLeaves(), -2);
    StampViews none = new StampViews();
    refused(none, none.tryLeaves(), 1);
  }

  /** Three say no of each other and yes of the fourth, who says yes of all: nothing ever settles. */
  private static final String RESTLESS = "office birds 0;mark m;paper p worth 1;stamp a ink 0 else no;stamp b ink 0 else no;"
      + "stamp c ink 0 else no;stamp d ink 0 else yes,m;rule a m yes;rule b m yes;rule c m yes";

  private static void promise30() {
    promise = 30;
    StampViews x = at(TOWN);
    due("s of t", x.judges(0, 1), 2);
    due("t of s", x.judges(1, 0), 1);
    due("u of s", x.judges(2, 0), 2);
    due("s of u", x.judges(0, 2), 2);
    refused(x, x.judges(0, 0), 1);
    refused(x, x.judges(0, 3), 1);
    refused(x, x.judges(-1, 0), 1);
  }

  private static void promise31() {
    promise = 31;
    StampViews x = at(RESTLESS);
    due("all at first", x.good(0), 15);
    due("one month", x.good(1), 8);
    due("two months", x.good(2), 15);
    due("19 months", x.good(19), 8);
    due("20 months", x.good(20), 15);
    refused(x, x.good(21), 2);
    refused(x, x.good(-1), 2);
    due("no stamps", at(BARE).good(3), 0);
    StampViews y = at("office birds 0;mark m;paper p worth 1;stamp a ink 0 else yes;stamp b ink 0 else no,m;rule a m no");
    due("each says no of the other: both at once", y.good(1), 0);
    due("with none to judge, as ahead", y.good(2), 0);
    StampViews z = at("office birds 0;paper p worth 1;stamp a ink 0 else faint;stamp b ink 0 else no");
    due("faint is neither", z.good(1), 2);
    StampViews w = at("office birds 0;mark m;mark n;paper p worth 1;stamp a ink 0 else faint,m;stamp b ink 0 else faint,n;stamp c ink 0 else no,n;"
        + "rule b m yes;rule c m no;rule a n no");
    due("a: one yes, one no: as ahead", w.good(1), 1);
    StampViews none = new StampViews();
    refused(none, none.good(99), 1);
  }

  private static void promise32() {
    promise = 32;
    due("never", at(RESTLESS).settled(), -2);
    due("at once", at(TOWN).settled(), 0);
    due("no stamps", at(BARE).settled(), 0);
    due("one month", at("office birds 0;paper p worth 1;stamp a ink 0 else faint;stamp b ink 0 else no").settled(), 1);
    StampViews none = new StampViews();
    refused(none, none.settled(), 1);
  }

  private static void promise33() {
    promise = 33;
    due("town", at(TOWN).steady(), 5);
    due("no stamps", at(BARE).steady(), 1);
    due("one stamp", at(BARE + ";stamp a ink 0 else no").steady(), 2);
    due("two that say no: not both", at(BARE + ";stamp a ink 0 else no;stamp b ink 0 else no").steady(), 3);
    due("two that say yes: not one alone", at(BARE + ";stamp a ink 0 else yes;stamp b ink 0 else yes").steady(), 2);
    StampViews none = new StampViews();
    refused(none, none.steady(), 1);
  }

  private static void promise34() {
    promise = 34;
    StampViews x = at(TOWN);
    due("yes", x.has(0, 1), 60);
    due("faint", x.has(2, 0), 20);
    due("faint, downwards", x.has(0, 2), 4);
    due("no", x.has(1, 1), 0);
    refused(x, x.has(3, 0), 1);
    refused(x, x.has(0, 3), 1);
    refused(x, x.has(-1, -1), 1);
  }

  private static void promise35() {
    promise = 35;
    due("60, 40, 30", at(TOWN).clerks(), 30);
    due("one that says no", at(BARE + ";stamp a ink 0 else yes;stamp b ink 0 else no").clerks(), 0);
    due("the first", at(BARE + ";stamp a ink 0 else faint;stamp b ink 0 else yes").clerks(), 2);
    StampViews x = at(BARE);
    refused(x, x.clerks(), 6);
    StampViews none = new StampViews();
    refused(none, none.clerks(), 1);
  }

  private static void promise36() {
    promise = 36;
    due("20, 0, 4", at(TOWN).applicants(), 20);
    due("one that says faint", at(BARE + ";stamp a ink 0 else yes;stamp b ink 0 else faint").applicants(), 2);
    due("nothing", at(BARE + ";stamp a ink 0 else no;stamp b ink 0 else yes").applicants(), 0);
    StampViews x = at(BARE);
    refused(x, x.applicants(), 6);
    StampViews none = new StampViews();
    refused(none, none.applicants(), 1);
  }

  private static void promise37() {
    promise = 37;
    due("u", at(TOWN).clerkPicks(), 2);
    due("the first of like ones", at(BARE + ";stamp a ink 0 else yes;stamp b ink 0 else no;stamp c ink 0 else no").clerkPicks(), 1);
    due("the very first", at(BARE + ";stamp a ink 0 else faint;stamp b ink 0 else yes;stamp c ink 0 else faint").clerkPicks(), 0);
    StampViews x = at(BARE);
    refused(x, x.clerkPicks(), 6);
    StampViews none = new StampViews();
    refused(none, none.clerkPicks(), 1);
  }

  private static void promise38() {
    promise = 38;
    due("none", at(TOWN).even(), 0);
    due("one", at(BARE + ";stamp a ink 0 else yes").even(), 1);
    due("two of like papers, by two of like stamps", at("office birds 0;paper p worth 8;paper q worth 8;paper r worth 7;"
        + "stamp a ink 0 else faint;stamp b ink 0 else faint;stamp c ink 0 else yes").even(), 4);
    StampViews x = at(BARE);
    refused(x, x.even(), 6);
    StampViews none = new StampViews();
    refused(none, none.even(), 1);
  }

  private static void promise39() {
    promise = 39;
    StampViews x = at(TOWN);
    part("yes by a", x.sure(0, 0, 0, 1, false), x.sure(0, 0, 0, 1, true), 4, 5);
    part("faint by a", x.sure(0, 0, 0, 2, false), x.sure(0, 0, 0, 2, true), 1, 5);
    part("no by a", x.sure(0, 0, 0, 0, false), x.sure(0, 0, 0, 0, true), 0, 1);
    part("faint by both", x.sure(2, 0, 0, 2, false), x.sure(2, 0, 0, 2, true), 1, 1);
    part("no by c", x.sure(0, 2, 0, 0, false), x.sure(0, 2, 0, 0, true), 1, 1);
    refused(x, x.sure(3, 0, 0, 0, false), 1);
    refused(x, x.sure(0, 3, 0, 9, false), 1);
    refused(x, x.sure(0, 0, 3, 0, false), 1);
    refused(x, x.sure(0, 0, 0, 3, false), 2);
    refused(x, x.sure(0, 0, 0, -1, true), 2);
  }

  private static void promise40() {
    promise = 40;
    StampViews x = at(TOWN);
    part("s by a: 80 of 100 times 100", x.mean(0, 0, false), x.mean(0, 0, true), 80, 1);
    part("s by b", x.mean(0, 1, false), x.mean(0, 1, true), 109, 1);
    part("s by c", x.mean(0, 2, false), x.mean(0, 2, true), 0, 1);
    part("t by a: 49 by 80 of 100", x.mean(1, 0, false), x.mean(1, 0, true), 196, 5);
    refused(x, x.mean(3, 0, false), 1);
    refused(x, x.mean(0, 3, false), 1);
    refused(x, x.mean(-1, 0, true), 1);
  }

  /** With one stamp, hand and paper each press takes four draws, and a fifth one behind a faint print. */
  private static String one(String said, int moody, int birds) {
    return "office birds " + birds + ";paper p worth 1;stamp s ink 0 else " + said + ";hand h straight moody " + moody;
  }

  private static void promise41() {
    promise = 41;
    StampViews x = at(TOWN);
    due("faint", x.presses(2, 0, 1), 1);
    due("no", x.presses(0, 0, 1), 0);
    due("none at all", x.presses(2, 0, 0), 0);
    due("all of them", x.presses(0, 65536, 90) + x.presses(1, 65536, 90) + x.presses(2, 65536, 90), 90);
    // Draws by 0: 74, 5624, 28652, 51790 (mood 90), then 17641, 12409, 13231, 9344 (mood 44), without a faint one between.
    due("in its mood", at(one("no", 91, 0)).presses(2, 0, 1), 1);
    due("not in its mood", at(one("no", 90, 0)).presses(0, 0, 1), 1);
    StampViews twice = at(one("no", 90, 0));
    due("counted anew", twice.presses(0, 0, 1) + 10 * twice.presses(0, 0, 1), 11);
    due("the second is", at(one("no", 45, 0)).presses(2, 0, 2), 1);
    due("the second isn't", at(one("no", 44, 0)).presses(2, 0, 2), 0);
    due("ink is no matter and stays", x.stamp(2, 0), 0);
    due("nothing is pressed", x.size(8), 0);
    refused(x, x.presses(3, 0, 1), 2);
    refused(x, x.presses(-1, 0, 1), 2);
    refused(x, x.presses(0, 65537, 1), 2);
    refused(x, x.presses(0, -1, 1), 2);
    refused(x, x.presses(0, 0, 91), 2);
    refused(x, x.presses(0, 0, -1), 2);
    StampViews y = at(BARE);
    refused(y, y.presses(0, 0, 1), 6);
    refused(y, y.presses(3, 0, 1), 2);
    StampViews z = at(BARE + ";stamp s ink 0 else no");
    refused(z, z.presses(0, 0, 1), 6);
    StampViews none = new StampViews();
    refused(none, none.presses(9, 0, 1), 1);
  }

  private static void promise42() {
    promise = 42;
    StampViews x = at(TOWN);
    due("one bird", x.birds(0, 1), 1);
    due("none", x.birds(0, 0), 0);
    // The fifth draw by 0 is 17641 (41): a bird below 42.
    due("a faint one said", at(one("faint", 0, 42)).birds(0, 1), 1);
    due("not below", at(one("faint", 0, 41)).birds(0, 1), 0);
    due("a faint one by mood", at(one("yes", 100, 42)).birds(0, 1), 1);
    due("none behind a yes", at(one("yes", 0, 100)).birds(0, 90), 0);
    due("always", at(one("faint", 0, 100)).birds(12345, 90), 90);
    refused(x, x.birds(-1, 1), 2);
    refused(x, x.birds(65537, 1), 2);
    refused(x, x.birds(0, 91), 2);
    refused(x, x.birds(0, -1), 2);
    StampViews y = at(BARE);
    refused(y, y.birds(0, 1), 6);
    refused(y, y.birds(0, 91), 2);
    StampViews none = new StampViews();
    refused(none, none.birds(0, 1), 1);
  }

  private static void promise43() {
    promise = 43;
    StampViews x = at(TOWN);
    due("r", x.printed(2, 0, 1), 2);
    due("p wasn't", x.printed(0, 0, 1), -2);
    due("r in none", x.printed(2, 0, 0), -2);
    StampViews y = at(one("yes", 45, 0));
    due("the first: mood 90", y.printed(0, 0, 1), 1);
    due("the second: mood 44", y.printed(0, 0, 2), 2);
    due("it isn't kept", y.paper(0, 3), -2);
    // Papers drawn by 0: 28652 is even, 13231 is odd: p, then q.
    StampViews z = at("office birds 0;paper p worth 1;paper q worth 1;stamp s ink 0 else yes;hand h straight moody 0");
    due("the latest on p is the first of both", z.printed(0, 0, 2), 1);
    due("q", z.printed(1, 0, 2), 1);
    refused(x, x.printed(3, 0, 1), 1);
    refused(x, x.printed(-1, -1, 1), 1);
    refused(x, x.printed(0, 65537, 1), 2);
    refused(x, x.printed(0, 0, 91), 2);
    StampViews b = at(BARE);
    refused(b, b.printed(0, 0, 1), 6);
    refused(b, b.printed(0, 0, 91), 2);
  }

  private static void promise44() {
    promise = 44;
    StampViews x = at(TOWN);
    due("cross", x.press(0, 2, 0), 0);
    due("trouble", x.trouble(), 0);
    due("ink", x.stamp(0, 0), 0);
    due("stamp", x.stamp(0, 4), 1);
    due("hand", x.hand(2, 2), 1);
    due("paper", x.paper(0, 3), 0);
    due("presses", x.size(8), 1);
    refused(x, x.press(0, 0, 0), 6);
    due("nothing pressed by it", x.size(8), 1);
    due("again, by another", x.press(1, 0, 0), 1);
    due("the latest", x.paper(0, 3), 1);
    due("moods aside", at("office birds 0;paper p worth 1;stamp s ink 1 else yes;hand h straight moody 100").press(0, 0, 0), 1);
    refused(x, x.press(3, 0, 0), 1);
    refused(x, x.press(0, 3, 0), 1);
    refused(x, x.press(0, 0, 3), 1);
    refused(x, x.press(-1, 0, 0), 1);
  }

  private static void promise45() {
    promise = 45;
    StampViews x = at(TOWN);
    done(x, x.carve(0, 2));
    due("verdict", x.rule(0, 3), 2);
    due("it says so", x.says(0, 0), 2);
    denied(x, x.carve(0, 2), 5);
    denied(x, x.carve(0, 3), 2);
    denied(x, x.carve(0, -1), 2);
    denied(x, x.carve(5, 3), 1);
    denied(x, x.carve(-1, 0), 1);
    due("one act", x.size(9), 1);
  }

  private static void promise46() {
    promise = 46;
    StampViews x = at(TOWN);
    done(x, x.mark(0, 2, true));
    due("put on", x.paper(0, 1), 5);
    denied(x, x.mark(0, 2, true), 5);
    done(x, x.mark(0, 0, false));
    due("taken off", x.paper(0, 1), 4);
    denied(x, x.mark(0, 0, false), 5);
    denied(x, x.mark(3, 0, true), 1);
    denied(x, x.mark(0, 3, true), 1);
    denied(x, x.mark(0, 3, false), 1);
    denied(x, x.mark(0, -1, true), 1);
    denied(x, x.mark(-1, 0, true), 1);
    due("two acts", x.size(9), 2);
  }

  private static void promise47() {
    promise = 47;
    StampViews x = at(TOWN);
    done(x, x.fill(2, 9));
    due("ink", x.stamp(2, 0), 9);
    denied(x, x.fill(2, 9), 5);
    denied(x, x.fill(2, 1), 5);
    denied(x, x.fill(2, 10), 2);
    denied(x, x.fill(2, 0), 2);
    denied(x, x.fill(3, 10), 1);
    denied(x, x.fill(-1, 1), 1);
    done(x, x.fill(0, 2));
    due("two acts", x.size(9), 2);
  }

  private static void promise48() {
    promise = 48;
    StampViews x = at(TOWN);
    denied(x, x.undo(), 6);
    x.press(1, 1, 0);
    x.press(1, 2, 0);
    x.carve(0, 0);
    x.mark(0, 1, true);
    x.fill(1, 7);
    due("five acts", x.size(9), 5);
    done(x, x.undo());
    due("ink", x.stamp(1, 0), 0);
    done(x, x.undo());
    due("mark", x.paper(0, 1), 1);
    done(x, x.undo());
    due("verdict", x.rule(0, 3), 1);
    done(x, x.undo());
    due("printed ahead of it", x.paper(0, 3), 1);
    due("ink ahead of it", x.stamp(1, 0), 1);
    due("hands ahead of it", x.hand(1, 2) * 10 + x.hand(2, 2), 10);
    done(x, x.undo());
    due("never printed", x.paper(0, 3), -2);
    due("never pressed", x.size(8) + x.stamp(1, 4) + x.hand(1, 2), 0);
    denied(x, x.undo(), 6);
    for (int i = 0; i < 20; i++) x.mark(0, 1, i % 2 == 0);
    x.carve(0, 0);
    due("16 are kept", x.size(9), 16);
    for (int i = 0; i < 16; i++) done(x, x.undo());
    denied(x, x.undo(), 6);
    due("five marks stay", x.paper(0, 1), 3);
    due("the carving doesn't", x.rule(0, 3), 1);
    x.mark(0, 1, false);
    done(x, x.undo());
    due("and on it goes", x.paper(0, 1), 3);
  }

  private static void promise49() {
    promise = 49;
    StampViews x = at(TOWN);
    due("first", x.image(), 0);
    due("second", x.image(), 1);
    due("third", x.image(), 2);
    refused(x, x.image(), 3);
    due("three", x.size(10), 3);
    StampViews none = new StampViews();
    refused(none, none.image(), 1);
  }

  private static void promise50() {
    promise = 50;
    StampViews x = at(TOWN);
    x.image();
    x.press(0, 0, 0);
    x.mark(1, 0, true);
    x.image();
    x.carve(0, 0);
    x.fill(2, 3);
    done(x, x.back(1));
    due("verdict", x.rule(0, 3), 1);
    due("ink of u", x.stamp(2, 0), 0);
    due("ink of s", x.stamp(0, 0), 0);
    due("marks", x.paper(1, 1), 7);
    due("printed", x.paper(0, 3), 1);
    due("nothing to undo", x.size(9), 0);
    denied(x, x.undo(), 6);
    done(x, x.back(0));
    due("ink ahead of all", x.stamp(0, 0), 1);
    due("marks ahead of all", x.paper(1, 1), 6);
    due("printed ahead of all", x.paper(0, 3), -2);
    due("presses ahead of all", x.size(8), 0);
    due("images stay", x.size(10), 2);
    x.mark(0, 0, false);
    done(x, x.back(1));
    due("forth again", x.size(8), 1);
    due("marks by it", x.paper(0, 1), 1);
    denied(x, x.back(2), 1);
    denied(x, x.back(-1), 1);
    tell(x, TOWN);
    denied(x, x.back(0), 1);
  }

  private static void promise51() {
    promise = 51;
    StampViews x = at(TOWN);
    due("none", hasNoLed(x, 0) ? 1 : 0, 1);
    due("none in a new one", hasNoLed(new StampViews(), 0) ? 1 : 0, 1);
    StampViews y = at(TOWN);
    y.press(0, 0, 0);
    due("the first paper", y.led(0), 0);
    x.press(1, 0, 2);
    x.press(0, 0, 1);
    due("first by numbers", x.led(0), 1);
    due("second by numbers", x.led(1), 2);
    due("no third", hasNoLed(x, 2) ? 1 : 0, 1);
    due("none below", hasNoLed(x, -1) ? 1 : 0, 1);
    x.press(1, 0, 1);
    due("no is latest on q", x.led(0), 2);
    due("no second", hasNoLed(x, 1) ? 1 : 0, 1);
    x.undo();
    due("undone", x.led(0), 1);
    x.says(9, 9);
    x.led(0);
    due("trouble stays", x.trouble(), 1);
  }

  private static void promise52() {
    promise = 52;
    StampViews x = at(TOWN);
    x.press(0, 0, 0);
    x.mark(1, 0, true);
    x.image();
    x.feed(0, 0, 0, 0, 0);
    int[] sizes = {50, 3, 3, 3, 5, 3, 3, 2, 1, 2, 1, 20};
    for (int what = 0; what < 12; what++) due("size " + what, x.size(what), sizes[what]);
    x.says(0, 0);
    due("12", x.size(12), -1);
    due("-1", x.size(-1), -1);
    due("trouble, of which no number is told", x.trouble(), 0);
    StampViews y = new StampViews();
    y.feed(0, 0, 0, 0, 0);
    due("the tape without an office", y.size(11), 20);
    due("others without an office", y.size(12), -1);
  }

  private static void promise53() {
    promise = 53;
    StampViews x = at(TOWN);
    due("fine", x.trouble(), 0);
    x.says(9, 0);
    due("none such", x.trouble(), 1);
    due("again", x.trouble(), 1);
    x.good(99);
    due("a number", x.trouble(), 2);
    for (int i = 0; i < 4; i++) x.image();
    due("no room", x.trouble(), 3);
    tell(x, "office");
    due("a fault", x.trouble(), 4);
    x.mark(0, 0, true);
    due("not so", x.trouble(), 5);
    x.press(2, 0, 0);
    due("there is none", x.trouble(), 6);
    x.undo();
    due("there is none, too", x.trouble(), 6);
    x.kept();
    due("fine again", x.trouble(), 0);
  }
}
