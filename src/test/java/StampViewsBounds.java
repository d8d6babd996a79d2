/**
 * Terms II to IV and promises 6 to 53, sentence by sentence where they name a bound: what -2 and 0 stand for, the least and
 * the most that there can be, what is just above it, what wraps round, and what a refused act leaves as it was.
 * Answers are reckoned by hand. StampViewsRefusals has all mixes of arguments, StampViewsTextBounds the text.
 */
public final class StampViewsBounds {
  private static final int MIN = Integer.MIN_VALUE;
  private static final int MAX = Integer.MAX_VALUE;
  private static final String ZERO = "office birds 0;";
  private static final String FIVE_MARKS = ZERO + "mark a;mark b;mark c;mark d;mark e;";

  public static void main(String[] args) {
    newObject();
    papers();
    stamps();
    hands();
    rules();
    saying();
    printing();
    sayersNoneAndAll();
    idleRulesNoneAndNine();
    differNoneAndAll();
    eachHandTwice();
    inkNow();
    keptByPairs();
    toFillOrNone();
    wordedOrNone();
    rewordOrNone();
    bestMarkOrNone();
    oddsOfNothingAndAll();
    oddsInLowestTerms();
    likeliestOrNone();
    lawsFromNoneTo33();
    tryOrNone();
    judgesOthers();
    monthsFrom0To20();
    settledOrNever();
    steadyFromOneToAll();
    hasHalfDownwards();
    clerkAndApplicant();
    sureAndMean();
    drawsAtTheirBounds();
    drawsWrapRound();
    printedOrNot();
    drawsOneByOne();
    allByRulesNow();
    allByMarksNow();
    pressDownToNoInk();
    carveWhatIsSo();
    markWhatIsSo();
    fillFrom1To9();
    sixteenAreKept();
    undoWrapsRound();
    whatIsUndone();
    imagesUpToThree();
    goneBack();
    ledOrThrows();
    sizesFrom0To11();
    troubleBehindEachCall();
    call512();
    Due.end();
  }

  private static String papersThatWant(int papers, String verdict, String others) {
    StringBuilder b = new StringBuilder("office birds 0");
    for (int p = 0; p < papers; p++) b.append(";paper ").append((char) ('a' + p)).append(" worth 1");
    b.append(';').append(others);
    for (int p = 0; p < papers; p++) b.append(";want ").append((char) ('a' + p)).append(' ').append(verdict);
    return b.toString();
  }

  private static void newObject() {
    Due.part("promise 1");
    StampViews x = new StampViews();
    Due.is("fault", x.fault(), 0);
    Due.is("where", x.where(), -1);
    Due.is("trouble", x.trouble(), 0);
    for (int what = 0; what <= 11; what++) Due.is("size " + what, x.size(what), 0);
    Due.denied("undo", StampViews::new, y -> Due.asLong(y.undo()), 6);
    Due.denied("back", StampViews::new, y -> Due.asLong(y.back(0)), 1);
    Due.denied("fill", StampViews::new, y -> Due.asLong(y.fill(0, 1)), 1);
    Due.refused("image", StampViews::new, StampViews::image, 1);
    Due.refused("press", StampViews::new, y -> y.press(0, 0, 0), 1);
  }

  private static void papers() {
    Due.part("promise 6");
    StampViews x = Due.at(Due.FULL);
    Due.fine("worth 99", x, x.paper(0, 0), 99);
    Due.fine("worth 0", x, x.paper(1, 0), 0);
    Due.fine("all five marks", x, x.paper(0, 1), 31);
    Due.fine("no marks", x, x.paper(1, 1), 0);
    Due.fine("0 is wanted: no", x, x.paper(1, 2), 0);
    Due.fine("2 is wanted: faint", x, x.paper(2, 2), 2);
    Due.fine("the last paper", x, x.paper(4, 0), 98);
    Due.fine("-2: nothing is wanted", x = Due.at(Due.BARE), x.paper(0, 2), -2);
    Due.fine("-2: nothing was printed", x, x.paper(0, 3), -2);
    StampViews y = Due.at(ZERO + "paper p worth 1;paper q worth 1;stamp s ink 9 else no;stamp t ink 9 else faint;hand h straight moody 100");
    y.press(0, 0, 0);
    Due.fine("0 was printed: no", y, y.paper(0, 3), 0);
    Due.fine("-2 on the other one", y, y.paper(1, 3), -2);
    y.press(1, 0, 0);
    Due.fine("2 was printed latest", y, y.paper(0, 3), 2);
    y.undo();
    y.undo();
    Due.fine("-2 again", y, y.paper(0, 3), -2);
    Due.refused("the sixth of five", Due::full, z -> z.paper(5, 0), 1);
    Due.refused("what 4", Due::full, z -> z.paper(0, 4), 1);
    Due.refused("what -1", Due::full, z -> z.paper(0, -1), 1);
  }

  private static void stamps() {
    Due.part("promise 7");
    StampViews x = Due.at(Due.FULL);
    Due.fine("ink 9", x, x.stamp(0, 0), 9);
    Due.fine("ink 0", x, x.stamp(1, 0), 0);
    Due.fine("marks 31", x, x.stamp(3, 2), 31);
    Due.fine("marks 0", x, x.stamp(2, 2), 0);
    Due.fine("four rules", x, x.stamp(3, 3), 4);
    Due.fine("never pressed", x, x.stamp(0, 4), 0);
    for (int i = 1; i <= 9; i++) {
      x.press(0, 0, 0);
      Due.fine("ink behind " + i, x, x.stamp(0, 0), 9 - i);
      Due.fine("pressed " + i, x, x.stamp(0, 4), i);
    }
    x.fill(0, 9);
    Due.fine("filled: pressed as often", x, x.stamp(0, 4), 9);
    x.press(0, 0, 0);
    Due.fine("ten times", x, x.stamp(0, 4), 10);
    x.press(3, 0, 0);
    x.press(3, 0, 0);
    x.press(2, 0, 0);
    int[] pressed = {10, 0, 1, 2};
    for (int s = 0; s < 4; s++) Due.fine("pressed, of stamp " + s, x, x.stamp(s, 4), pressed[s]);
    StampViews none = Due.at(Due.BARE + ";mark m;stamp s ink 0 else no;stamp t ink 0 else no" + ";rule t m no".repeat(10));
    Due.fine("no rules", none, none.stamp(0, 3), 0);
    Due.fine("all ten rules", none, none.stamp(1, 3), 10);
    Due.refused("the fifth of four", Due::full, z -> z.stamp(4, 0), 1);
    Due.refused("what 5", Due::full, z -> z.stamp(0, 5), 1);
  }

  private static void hands() {
    Due.part("promise 8");
    StampViews x = Due.at(Due.FULL);
    Due.fine("moody 0", x, x.hand(0, 1), 0);
    Due.fine("moody 100", x, x.hand(1, 1), 100);
    Due.fine("never", x, x.hand(2, 2), 0);
    x.press(0, 2, 0);
    x.press(2, 2, 1);
    Due.fine("twice, by two stamps", x, x.hand(2, 2), 2);
    Due.fine("the other never", x, x.hand(1, 2), 0);
    x.undo();
    Due.fine("once", x, x.hand(2, 2), 1);
    Due.refused("the fourth of three", Due::full, z -> z.hand(3, 0), 1);
    Due.refused("what 3", Due::full, z -> z.hand(0, 3), 1);
  }

  private static void rules() {
    Due.part("promise 9");
    StampViews x = Due.at(Due.FULL);
    Due.fine("stamp of the first", x, x.rule(0, 0), 0);
    Due.fine("stamp of the tenth", x, x.rule(9, 0), 3);
    Due.fine("mark of the first", x, x.rule(0, 1), 0);
    Due.fine("mark of the tenth", x, x.rule(9, 1), 4);
    Due.fine("not", x, x.rule(8, 2), 1);
    Due.fine("not not", x, x.rule(9, 2), 0);
    Due.fine("verdict 0", x, x.rule(9, 3), 0);
    x.carve(9, 2);
    Due.fine("verdict now", x, x.rule(9, 3), 2);
    Due.refused("the eleventh of ten", Due::full, z -> z.rule(10, 0), 1);
    Due.refused("what 4", Due::full, z -> z.rule(0, 4), 1);
    Due.refused("the first of none", Due::bare, z -> z.rule(0, 0), 1);
  }

  private static void saying() {
    Due.part("promises 10 to 12");
    String ten = FIVE_MARKS + "paper p worth 1,a,b,c,d;paper q worth 1,a,b,c,d,e;paper r worth 1;stamp s ink 0 else faint"
        + ";rule s not a no;rule s not b no;rule s not c no;rule s not d no;rule s not a no;rule s not b no;rule s not c no;rule s not d no"
        + ";rule s not a no;rule s e yes";
    StampViews x = Due.at(ten);
    Due.fine("by none: else", x, x.says(0, 0), 2);
    Due.fine("-2: by none", x, x.byRule(0, 0), -2);
    Due.fine("by the tenth", x, x.says(0, 1), 1);
    Due.fine("the tenth", x, x.byRule(0, 1), 9);
    Due.fine("by the first", x, x.says(0, 2), 0);
    Due.fine("0: the first", x, x.byRule(0, 2), 0);
    Due.fine("of no marks", x, x.saysOf(0, 0), 0);
    Due.fine("of all marks", x, x.saysOf(0, 31), 1);
    Due.fine("of all but the last", x, x.saysOf(0, 15), 2);
    Due.refused("a sixth mark", () -> Due.at(ten), z -> z.saysOf(0, 32), 1);
    Due.refused("marks below none", () -> Due.at(ten), z -> z.saysOf(0, -1), 1);
    Due.refused("all bits", () -> Due.at(ten), z -> z.saysOf(0, MAX), 1);
    StampViews bare = Due.at(Due.BARE + ";stamp s ink 0 else yes");
    Due.fine("no marks at all", bare, bare.saysOf(0, 0), 1);
    Due.is("the first mark of none", bare.saysOf(0, 1), -1);
    Due.is("by 1", bare.trouble(), 1);
  }

  private static void printing() {
    Due.part("terms II, promise 13");
    String[] kinds = {"straight", "kind", "stern", "cross"};
    int[][] due = {{0, 1, 2}, {0, 1, 1}, {0, 1, 0}, {1, 0, 2}};
    for (int kind = 0; kind < 4; kind++) {
      for (int moody : new int[] {0, 1, 99, 100}) {
        StampViews x = Due.at(ZERO + "paper p worth 1;stamp s ink 9 else no;stamp t ink 9 else yes;stamp u ink 9 else faint;hand h "
            + kinds[kind] + " moody " + moody);
        for (int said = 0; said < 3; said++) {
          Due.fine(kinds[kind] + " by " + said, x, x.prints(said, 0, 0), due[kind][said]);
          Due.fine("pressed likewise", x, x.press(said, 0, 0), due[kind][said]);
          for (int verdict = 0; verdict < 3; verdict++) {
            int hundred = (verdict == 2 ? moody : 0) + (verdict == due[kind][said] ? 100 - moody : 0);
            Due.fraction("sure", x.sure(said, 0, 0, verdict, false), x.sure(said, 0, 0, verdict, true),
                hundred == 100 ? 1 : hundred, hundred == 100 || hundred == 0 ? 1 : 100);
          }
        }
      }
    }
  }

  private static void sayersNoneAndAll() {
    Due.part("promise 14");
    StampViews x = Due.at(Due.BARE + ";stamp s ink 0 else yes;stamp t ink 0 else yes;stamp u ink 0 else yes;stamp v ink 0 else yes");
    Due.fine("all four", x, x.sayers(0, 1), 15);
    Due.fine("none", x, x.sayers(0, 0), 0);
    Due.fine("none, the last verdict", x, x.sayers(0, 2), 0);
    Due.refused("verdict 3", Due::full, z -> z.sayers(0, 3), 2);
    Due.refused("verdict -1", Due::full, z -> z.sayers(0, -1), 2);
    Due.refused("no such paper is told ahead of no verdict", Due::full, z -> z.sayers(5, 3), 1);
    StampViews bare = Due.at(Due.BARE);
    Due.fine("no stamps", bare, bare.sayers(0, 1), 0);
  }

  private static void idleRulesNoneAndNine() {
    Due.part("promise 15");
    String two = Due.BARE + ";mark m;stamp s ink 0 else no;stamp t ink 0 else no";
    StampViews x = Due.at(two + ";rule s m no".repeat(10));
    Due.fine("all but the first", x, x.idleRules(0), 1022);
    Due.fine("none of the other", x, x.idleRules(1), 0);
    StampViews y = Due.at(two + ";rule s m no;rule s not m no" + ";rule s m yes".repeat(8));
    Due.fine("behind both there is nothing", y, y.idleRules(0), 1020);
    StampViews z = Due.at(two + ";rule s m no;rule s not m no" + ";rule t m yes".repeat(1));
    Due.fine("none", z, z.idleRules(0), 0);
    StampViews five = Due.at(FIVE_MARKS + "paper p worth 1;stamp s ink 0 else no;rule s a no;rule s b no;rule s c no;rule s d no;rule s e no;"
        + "rule s not e yes;rule s not a yes");
    Due.fine("each mark alone, then none of them", five, five.idleRules(0), 64);
  }

  private static void differNoneAndAll() {
    Due.part("promise 16");
    StampViews x = Due.at(FIVE_MARKS + "paper p worth 1;stamp s ink 0 else yes;stamp t ink 0 else no;stamp u ink 0 else yes;"
        + "rule t e yes;rule u a faint;rule u b faint;rule u c faint;rule u d faint;rule u e faint");
    Due.fine("half of 32", x, x.differ(0, 1), 16);
    Due.fine("all but the empty one", x, x.differ(0, 2), 31);
    x.carve(0, 0);
    Due.fine("all 32", x, x.differ(0, 1), 32);
    for (int k = 1; k <= 5; k++) x.carve(k, 1);
    Due.fine("none", x, x.differ(0, 2), 0);
    StampViews y = Due.at(Due.BARE + ";stamp s ink 0 else yes;stamp t ink 0 else no");
    Due.fine("the one set of no marks", y, y.differ(0, 1), 1);
    for (int s = 0; s < 4; s++) {
      int same = s;
      Due.refused("unlike", Due::full, z -> z.differ(same, same), 1);
      Due.refused("unlike", Due::full, z -> z.judges(same, same), 1);
    }
  }

  // ---- wants

  private static void eachHandTwice() {
    Due.part("terms III, each hand twice at most");
    String[] hands = {"", ";hand f straight moody 0", ";hand g kind moody 100", ";hand h stern moody 50"};
    String told = "stamp s ink 9 else yes";
    for (int n = 0; n <= 3; n++) {
      told += hands[n];
      for (int papers = 1; papers <= 5; papers++) {
        StampViews x = Due.at(papersThatWant(papers, "yes", told));
        Due.fine(papers + " papers by " + n + " hands", x, x.kept(), Math.min(papers, 2 * n));
        for (int p = 0; p < papers; p++) Due.fine("paper " + p, x, x.keptBy(p), p < 2 * n ? p / 2 : -2);
        Due.fine("no ink helps", x, x.toFill(), -2);
      }
    }
  }

  private static void inkNow() {
    Due.part("terms III, no more often than it has ink now");
    String two = ";hand f straight moody 0;hand g straight moody 0;hand h straight moody 0";
    for (int ink = 0; ink <= 9; ink++) {
      StampViews x = Due.at(papersThatWant(5, "yes", "stamp s ink " + ink + " else yes" + two));
      Due.fine("kept by ink " + ink, x, x.kept(), Math.min(5, ink));
      Due.fine("to fill by ink " + ink, x, x.toFill(), ink < 5 ? 0 : -2);
      Due.fine("the last paper by ink " + ink, x, x.keptBy(4), ink < 5 ? -2 : 2);
    }
    StampViews x = Due.at(papersThatWant(5, "yes", "stamp s ink 2 else yes" + two));
    x.press(0, 0, 0);
    Due.fine("one pressed, one left", x, x.kept(), 1);
    x.press(0, 0, 0);
    Due.fine("none left", x, x.kept(), 0);
    Due.fine("nobody", x, x.keptBy(0), -2);
    x.fill(0, 1);
    Due.fine("filled to 1", x, x.kept(), 1);
    x.undo();
    x.undo();
    Due.fine("undone", x, x.kept(), 1);
    Due.fine("no want", x = Due.at(Due.BARE + ";stamp s ink 9 else yes;hand h kind moody 0"), x.kept(), 0);
    Due.fine("by nobody", x, x.keptBy(0), -2);
    StampViews smaller = new StampViews();
    for (int papers = 5; papers >= 1; papers--) {
      Due.tell(smaller, papersThatWant(papers, "yes", "stamp s ink 1 else yes" + two));
      Due.fine("one of " + papers, smaller, smaller.kept(), 1);
      for (int p = 0; p < papers; p++) Due.fine("paper " + p + " of " + papers, smaller, smaller.keptBy(p), p == 0 ? 0 : -2);
    }
    StampViews none = Due.at(papersThatWant(5, "yes", "stamp s ink 9 else yes" + two));
    none.kept();
    Due.tell(none, "office birds 0;mark m;paper a worth 1;paper b worth 1,m;stamp s ink 1 else yes;stamp t ink 1 else no;rule s m no;"
        + "hand h straight moody 0;want a yes;want b yes");
    Due.fine("behind a larger office", none, none.kept(), 1);
    Due.fine("the first paper", none, none.keptBy(0), 0);
    Due.fine("not the second", none, none.keptBy(1), -2);
    Due.refused("no office", Due::fresh, StampViews::kept, 1);
    Due.refused("no office", Due::fresh, StampViews::toFill, 1);
    Due.refused("no such paper", Due::town, z -> z.keptBy(3), 1);
  }

  private static void keptByPairs() {
    Due.part("promise 18");
    StampViews x = Due.at(papersThatWant(5, "faint", "stamp s ink 9 else yes;stamp t ink 9 else yes;stamp u ink 9 else yes;stamp v ink 2 else faint"
        + ";hand f kind moody 0;hand g stern moody 0;hand h cross moody 0"));
    Due.fine("the last stamp, the last hand", x, x.keptBy(0), 32);
    Due.fine("twice", x, x.keptBy(1), 32);
    Due.fine("not three times", x, x.keptBy(2), -2);
    Due.fine("two wants", x, x.kept(), 2);
    StampViews y = Due.at(papersThatWant(2, "yes", "stamp s ink 1 else yes;stamp t ink 1 else yes;hand f straight moody 0;hand g straight moody 0"));
    Due.fine("0: the first stamp, the first hand", y, y.keptBy(0), 0);
    Due.fine("the first hand again", y, y.keptBy(1), 10);
    StampViews z = Due.at(ZERO + "mark m;paper a worth 1;paper b worth 1,m;paper c worth 1;stamp s ink 1 else yes;stamp t ink 1 else no;"
        + "rule t m yes;hand h straight moody 0;want a yes;want b yes;want c yes");
    Due.fine("a by s", z, z.keptBy(0), 0);
    Due.fine("b by t", z, z.keptBy(1), 10);
    Due.fine("nobody behind all", z, z.keptBy(2), -2);
    StampViews way = Due.at(ZERO + "mark m;paper a worth 1;paper b worth 1,m;stamp s ink 1 else yes;stamp t ink 1 else yes;rule t m no;"
        + "hand h straight moody 0;want a yes;want b yes");
    Due.fine("the first stamp gives way", way, way.keptBy(0), 10);
    Due.fine("to the second paper", way, way.keptBy(1), 0);
    StampViews hand = Due.at(ZERO + "mark m;paper a worth 1;paper b worth 1;paper c worth 1,m;stamp s ink 9 else yes;rule s m faint;"
        + "hand k kind moody 0;hand h straight moody 0;want a yes;want b yes;want c yes");
    Due.fine("the first hand for one", hand, hand.keptBy(0), 0);
    Due.fine("and gives way once", hand, hand.keptBy(1), 1);
    Due.fine("to the third paper", hand, hand.keptBy(2), 0);
    Due.fine("all three", hand, hand.kept(), 3);
  }

  private static void toFillOrNone() {
    Due.part("promise 19");
    StampViews x = Due.at(papersThatWant(3, "yes", "stamp s ink 0 else no;stamp t ink 1 else yes;stamp u ink 0 else yes;stamp v ink 0 else yes"
        + ";hand f straight moody 0;hand g kind moody 0"));
    Due.fine("the first by which more", x, x.toFill(), 1);
    Due.fine("nothing is filled by asking", x, x.stamp(1, 0), 1);
    x.fill(1, 3);
    Due.fine("all are kept", x, x.toFill(), -2);
    StampViews y = Due.at(papersThatWant(2, "yes", "stamp s ink 0 else yes;hand f straight moody 0"));
    Due.fine("0: the first stamp", y, y.toFill(), 0);
    StampViews z = Due.at(papersThatWant(5, "yes", "stamp s ink 9 else no;hand f straight moody 0"));
    Due.fine("ink 9, and none is kept", z, z.toFill(), -2);
    StampViews last = Due.at(papersThatWant(1, "no", "stamp s ink 9 else yes;stamp t ink 9 else yes;stamp u ink 9 else yes;stamp v ink 0 else no"
        + ";hand f straight moody 0"));
    Due.fine("the last stamp", last, last.toFill(), 3);
    // s says yes, no, yes, yes, faint; t says faint, no, faint, no, yes. By ink 1, 2 they keep b and d (t, h) and e (s, g);
    // with one ink more s can't help, as a, b, c and t's d all need h; with two more: d and e (s, g), a (s, h), b (t, h).
    StampViews two = Due.at(ZERO + "mark v;mark w;mark x;mark y;mark z;paper a worth 1,v;paper b worth 1,w;paper c worth 1,x;paper d worth 1,y;"
        + "paper e worth 1,z;stamp s ink 1 else yes;stamp t ink 2 else faint;rule s w no;rule s z faint;rule t w no;rule t y no;rule t z yes;"
        + "hand g cross moody 0;hand h straight moody 0;want a yes;want b no;want c yes;want d no;want e faint");
    Due.fine("three are kept", two, two.kept(), 3);
    Due.fine("two ink more would help, one doesn't", two, two.toFill(), -2);
    two.fill(0, 2);
    Due.fine("three still", two, two.kept(), 3);
    Due.fine("now one does", two, two.toFill(), 0);
    two.fill(0, 3);
    Due.fine("four", two, two.kept(), 4);
  }

  // ---- words

  private static void wordedOrNone() {
    Due.part("promise 20");
    String all = FIVE_MARKS + "paper p worth 1;stamp s ink 0 else yes;stamp t ink 0 else yes;"
        + "rule s not a no;rule s not b no;rule s not c no;rule t not d no;rule t not e no";
    StampViews x = Due.at(all);
    Due.fine("all five", x, x.worded(), 31);
    x.carve(4, 1);
    Due.fine("all but the last", x, x.worded(), 15);
    for (int k = 0; k < 4; k++) x.carve(k, 1);
    Due.fine("0: none", x, x.worded(), 0);
    x.carve(0, 2);
    Due.fine("a alone, faint is not yes", x, x.worded(), 1);
    StampViews never = Due.at(FIVE_MARKS + "paper p worth 1;stamp s ink 0 else yes;stamp t ink 0 else no");
    Due.fine("-2: one never says yes", never, never.worded(), -2);
    StampViews like = Due.at(FIVE_MARKS + "paper p worth 1;stamp s ink 0 else no;stamp t ink 0 else no;rule s e yes;rule s b yes;rule t d yes;rule t c yes");
    Due.fine("two marks, of like ones the least bits: b and c", like, like.worded(), 6);
    StampViews high = Due.at(FIVE_MARKS + "paper p worth 1;stamp s ink 0 else no;stamp t ink 0 else no;rule s a yes;rule t b yes;rule s e yes;rule t e yes");
    Due.fine("one mark, though a and b have less bits", high, high.worded(), 16);
    Due.refused("no office", Due::fresh, StampViews::worded, 1);
  }

  private static void rewordOrNone() {
    Due.part("promise 21");
    StampViews x = Due.at(FIVE_MARKS + "paper p worth 1;paper q worth 1,a,b,c,d,e;stamp s ink 0 else yes;"
        + "rule s not a no;rule s not b no;rule s not c no;rule s not d no;rule s not e no");
    Due.fine("all five put on", x, x.reword(0, 0, 1), 31);
    Due.fine("0: none", x, x.reword(0, 0, 0), 0);
    Due.fine("0: none, with all on", x, x.reword(1, 0, 1), 0);
    Due.fine("one taken off, of like ones the least", x, x.reword(1, 0, 0), 1);
    Due.fine("-2: never faint", x, x.reword(0, 0, 2), -2);
    x.mark(0, 2, true);
    Due.fine("four put on", x, x.reword(0, 0, 1), 27);
    Due.fine("nothing is put on by asking", x, x.paper(0, 1), 4);
    StampViews all = Due.at(FIVE_MARKS + "paper p worth 1,a,b,c,d,e;stamp s ink 0 else yes;"
        + "rule s a no;rule s b no;rule s c no;rule s d no;rule s e no");
    Due.fine("all five taken off", all, all.reword(0, 0, 1), 31);
    StampViews high = Due.at(FIVE_MARKS + "paper p worth 1,a,b;stamp s ink 0 else yes;rule s e yes;rule s a no;rule s b no");
    Due.fine("one put on, though two taken off have less bits", high, high.reword(0, 0, 1), 16);
    Due.refused("verdict 3", Due::full, z -> z.reword(0, 0, 3), 2);
    Due.refused("no such stamp is told ahead of no verdict", Due::full, z -> z.reword(0, 4, 3), 1);
  }

  private static void bestMarkOrNone() {
    Due.part("promise 22");
    StampViews x = Due.at(FIVE_MARKS + "paper p worth 1;paper q worth 1,e;stamp s ink 0 else no;stamp t ink 0 else no;stamp u ink 0 else no;"
        + "stamp v ink 0 else no;rule s e yes;rule t e yes;rule u e yes;rule v e yes");
    Due.fine("the last mark, by all four", x, x.bestMark(0), 4);
    Due.fine("-2: none more", x, x.bestMark(1), -2);
    StampViews y = Due.at(ZERO + "mark a;mark b;paper p worth 1,a;stamp s ink 0 else yes;rule s a no;rule s b yes");
    Due.fine("0: the first, taken off", y, y.bestMark(0), 0);
    StampViews z = Due.at(ZERO + "mark a;mark b;mark c;paper p worth 1;stamp s ink 0 else no;stamp t ink 0 else yes;stamp u ink 0 else no;"
        + "rule t a no;rule s a yes;rule u a yes;rule s c yes;rule s b yes");
    Due.fine("two more and one less is one more: as many as by b or c, the first such", z, z.bestMark(0), 0);
    StampViews bare = Due.at(Due.BARE + ";stamp s ink 0 else no");
    Due.fine("-2: no marks", bare, bare.bestMark(0), -2);
  }

  // ---- a stranger

  private static void oddsOfNothingAndAll() {
    Due.part("promises 23 and 25");
    String told = ZERO + "paper p worth 1;stamp s ink 0 else yes;stamp t ink 0 else no;hand f straight moody 0;hand g kind moody 100";
    StampViews never = Due.at(told + ";print p f yes;print p f no");
    for (int s = 0; s < 2; s++) Due.fraction("prints can't be", never.odds(s, false), never.odds(s, true), 0, 1);
    for (int v = 0; v < 3; v++) Due.fraction("nor the next", never.next(0, 1, v, false), never.next(0, 1, v, true), 0, 1);
    Due.is("it isn't refused", never.trouble(), 0);
    StampViews one = Due.at(told + ";print p f yes");
    Due.fraction("1 by 1", one.odds(0, false), one.odds(0, true), 1, 1);
    Due.fraction("0 by 1", one.odds(1, false), one.odds(1, true), 0, 1);
    Due.fraction("sure next", one.next(0, 0, 1, false), one.next(0, 0, 1, true), 1, 1);
    Due.fraction("never next", one.next(0, 0, 0, false), one.next(0, 0, 0, true), 0, 1);
    Due.fraction("by a mood of 100", one.next(0, 1, 2, false), one.next(0, 1, 2, true), 1, 1);
    StampViews mood = Due.at(told + ";print p g faint;print p g faint;print p g faint;print p g faint");
    Due.fraction("by a mood of 100 nothing is learnt", mood.odds(1, false), mood.odds(1, true), 1, 2);
    StampViews none = Due.at(told);
    Due.fraction("no prints: as likely", none.odds(0, false), none.odds(0, true), 1, 2);
    StampViews noStamp = Due.at(Due.BARE + ";hand h kind moody 0;print p h yes");
    Due.fraction("no stamp", noStamp.next(0, 0, 1, false), noStamp.next(0, 0, 1, true), 0, 1);
    for (boolean lower : new boolean[] {false, true}) {
      Due.refused("the fifth of four", Due::full, z -> z.odds(4, lower), 1);
      Due.refused("verdict 3", Due::full, z -> z.next(0, 0, 3, lower), 2);
      Due.refused("no such hand is told ahead of no verdict", Due::full, z -> z.next(0, 3, 3, lower), 1);
    }
  }

  private static void oddsInLowestTerms() {
    Due.part("promises 23 and 25, lowest terms");
    String told = ZERO + "paper p worth 1;stamp s ink 0 else yes;stamp t ink 0 else no;stamp u ink 0 else yes;stamp v ink 0 else faint;"
        + "hand f straight moody 1" + ";print p f faint".repeat(4);
    StampViews x = Due.at(told);
    Due.fraction("1 of 1, 1, 1 and 100 to the fourth", x.odds(0, false), x.odds(0, true), 1, 100_000_003L);
    Due.fraction("the other", x.odds(3, false), x.odds(3, true), 100_000_000L, 100_000_003L);
    Due.fraction("above 2 to the 32nd", x.next(0, 0, 2, false), x.next(0, 0, 2, true), 10_000_000_003L, 10_000_000_300L);
    Due.fraction("two times 99 of that", x.next(0, 0, 1, false), x.next(0, 0, 1, true), 99, 5_000_000_150L);
    Due.fraction("once 99", x.next(0, 0, 0, false), x.next(0, 0, 0, true), 99, 10_000_000_300L);
    StampViews least = Due.at(ZERO + "paper p worth 1;stamp s ink 0 else yes;hand f straight moody 1" + ";print p f faint".repeat(4));
    Due.fraction("once in 100 to the fourth, and so by the only one", least.odds(0, false), least.odds(0, true), 1, 1);
    Due.fraction("99 of 100 next", least.next(0, 0, 1, false), least.next(0, 0, 1, true), 99, 100);
    StampViews half = Due.at(ZERO + "paper p worth 1;stamp s ink 0 else yes;stamp t ink 0 else faint;hand f straight moody 50;print p f faint");
    Due.fraction("50 of 150", half.odds(0, false), half.odds(0, true), 1, 3);
    Due.fraction("100 of 150", half.odds(1, false), half.odds(1, true), 2, 3);
    Due.fraction("yes: a third of a half", half.next(0, 0, 1, false), half.next(0, 0, 1, true), 1, 6);
    Due.fraction("faint: a third of a half and two thirds", half.next(0, 0, 2, false), half.next(0, 0, 2, true), 5, 6);
  }

  private static void likeliestOrNone() {
    Due.part("promise 24");
    String told = ZERO + "paper p worth 1;stamp s ink 0 else no;stamp t ink 0 else no;stamp u ink 0 else yes;stamp v ink 0 else yes;"
        + "hand f straight moody 1;hand g straight moody 0";
    StampViews x;
    Due.fine("0: the first of like ones", x = Due.at(told), x.likeliest(), 0);
    Due.fine("the first of two", x = Due.at(told + ";print p f yes"), x.likeliest(), 2);
    Due.fine("0 again", x = Due.at(told + ";print p f faint"), x.likeliest(), 0);
    Due.fine("-2: prints can't be", x = Due.at(told + ";print p g faint"), x.likeliest(), -2);
    Due.fine("-2: no stamp", x = Due.at(Due.BARE + ";hand h kind moody 0;print p h yes"), x.likeliest(), -2);
    Due.fine("-2: no stamp, no prints", x = Due.at(Due.BARE), x.likeliest(), -2);
    Due.refused("no office", Due::fresh, StampViews::likeliest, 1);
  }

  private static void lawsFromNoneTo33() {
    Due.part("promises 26 and 27");
    StringBuilder told = new StringBuilder("office birds 0;paper p worth 1;hand f straight moody 0;hand g kind moody 0;hand h cross moody 0");
    for (int marks = 0; marks <= 5; marks++) {
      StampViews x = Due.at(told.toString());
      Due.fine("three, and six for each of " + marks, x, x.laws(), 3 + 6 * marks);
      Due.fine("all verdicts", x, x.lawSays(0), 7);
      StampViews one = Due.at(told + ";print p f no");
      Due.fine("one, and two for each", one, one.laws(), 1 + 2 * marks);
      Due.fine("no alone", one, one.lawSays(0), 1);
      StampViews kind = Due.at(told + ";print p g yes");
      Due.fine("yes or faint by a kind one", kind, kind.laws(), 2 + 4 * marks);
      Due.fine("both", kind, kind.lawSays(0), 6);
      StampViews cross = Due.at(told + ";print p h yes");
      Due.fine("no by a cross one", cross, cross.lawSays(0), 1);
      StampViews none = Due.at(told + ";print p f no;print p f yes");
      Due.fine("0: none", none, none.laws(), 0);
      Due.fine("0: they say nothing", none, none.lawSays(0), 0);
      Due.fine("-2: no laws to try", none, none.tryNext(), -2);
      Due.fine("-2: none left", none, none.tryLeaves(), -2);
      told.append(";mark ").append((char) ('v' + marks));
    }
    StampViews on = Due.at(FIVE_MARKS + "paper p worth 1,a,b,c,d,e;hand f straight moody 0;print p f faint");
    Due.fine("faint for all, and two for each mark that is there", on, on.laws(), 11);
    Due.fine("faint alone", on, on.lawSays(0), 4);
    StampViews both = Due.at(FIVE_MARKS + "paper p worth 1,a,e;paper q worth 1,b,e;hand f straight moody 0;print p f faint;print q f yes");
    Due.fine("a: faint, else yes; b: yes, else faint", both, both.laws(), 2);
    both.mark(1, 1, false);
    Due.fine("a alone", both, both.laws(), 1);
    both.mark(1, 0, true);
    Due.fine("like papers, unlike prints", both, both.laws(), 0);
    Due.refused("no office", Due::fresh, StampViews::laws, 1);
    Due.refused("no such paper", Due::town, z -> z.lawSays(3), 1);
  }

  private static void tryOrNone() {
    Due.part("promises 28 and 29");
    StampViews one = Due.at(Due.BARE + ";hand f straight moody 0;print p f no");
    Due.fine("0: the first paper", one, one.tryNext(), 0);
    Due.fine("the one law stays", one, one.tryLeaves(), 1);
    StampViews all = Due.at(FIVE_MARKS + "paper p worth 1");
    Due.fine("33 by three", all, all.tryLeaves(), 11);
    // By p without marks: no for all; a: yes or faint if it is there, no if it isn't. q has a and is said no, yes, faint of.
    StampViews last = Due.at(ZERO + "mark a;paper p worth 1;paper r worth 1;paper s worth 1;paper t worth 1;paper q worth 1,a;"
        + "hand f straight moody 0;print p f no");
    Due.fine("the last paper", last, last.tryNext(), 4);
    Due.fine("by which each leaves one", last, last.tryLeaves(), 1);
    last.mark(2, 0, true);
    Due.fine("the first such", last, last.tryNext(), 2);
    StampViews first = Due.at(ZERO + "mark a;paper q worth 1,a;paper p worth 1;hand f straight moody 0;print p f no");
    Due.fine("0: the first is best", first, first.tryNext(), 0);
    Due.fine("one is left", first, first.tryLeaves(), 1);
    StampViews alone = Due.at(ZERO + "mark a;paper q worth 1,a;hand f straight moody 0;print q f no");
    Due.fine("there is no other paper", alone, alone.tryNext(), 0);
    Due.fine("three are left", alone, alone.tryLeaves(), 3);
    Due.refused("no office", Due::fresh, StampViews::tryNext, 1);
    Due.refused("no office", Due::fresh, StampViews::tryLeaves, 1);
  }

  // ---- judgement

  /** What each of four says of each other one is told by rules; it settles behind 8 months, as late as four can. */
  private static final String SLOW = ZERO + "mark a;mark b;mark c;mark d;paper p worth 1;stamp s ink 0 else no,a;stamp t ink 0 else yes,b;"
      + "stamp u ink 0 else no,c;stamp v ink 0 else faint,d;rule s d yes;rule t a no;rule u a yes;rule v a no;rule v b yes";
  /** Three say no of each other and yes of the fourth, who says yes of all: nothing ever settles. */
  private static final String RESTLESS = ZERO + "mark m;paper p worth 1;stamp a ink 0 else no;stamp b ink 0 else no;stamp c ink 0 else no;"
      + "stamp d ink 0 else yes,m;rule a m yes;rule b m yes;rule c m yes";

  private static void judgesOthers() {
    Due.part("promise 30");
    StampViews x = Due.at(SLOW);
    int[][] due = {{9, 0, 0, 1}, {0, 9, 1, 1}, {1, 0, 9, 0}, {0, 1, 2, 9}};
    for (int s = 0; s < 4; s++) {
      for (int o = 0; o < 4; o++) {
        if (s != o) Due.fine(s + " of " + o, x, x.judges(s, o), due[s][o]);
      }
    }
    Due.refused("the fifth of four", Due::full, z -> z.judges(0, 4), 1);
    Due.refused("below the first", Due::full, z -> z.judges(0, -1), 1);
  }

  private static void monthsFrom0To20() {
    Due.part("promise 31");
    StampViews x = Due.at(SLOW);
    int[] due = {15, 12, 4, 5, 1, 9, 8, 10, 14};
    for (int months = 0; months <= 20; months++) Due.fine("behind " + months, x, x.good(months), due[Math.min(months, 8)]);
    StampViews y = Due.at(RESTLESS);
    for (int months = 0; months <= 20; months++) Due.fine("to and fro " + months, y, y.good(months), months % 2 == 0 ? 15 : 8);
    for (int months : new int[] {MIN, -1, 21, 22, MAX}) Due.refused("months " + months, Due::town, z -> z.good(months), 2);
    Due.refused("no office", Due::fresh, z -> z.good(0), 1);
    Due.refused("no office is told ahead of a number", Due::fresh, z -> z.good(21), 1);
    StampViews none = Due.at(Due.BARE);
    Due.fine("0: no stamps", none, none.good(20), 0);
    StampViews alone = Due.at(Due.BARE + ";stamp s ink 0 else no");
    Due.fine("itself aside", alone, alone.good(20), 1);
    StampViews even = Due.at(ZERO + "mark m;paper p worth 1;stamp s ink 0 else yes;stamp t ink 0 else no;stamp u ink 0 else yes,m;rule s m yes;rule t m no");
    Due.fine("one yes and one no: as ahead", even, even.good(1) & 4, 4);
  }

  private static void settledOrNever() {
    Due.part("promise 32");
    StampViews x = Due.at(SLOW);
    Due.fine("behind 8, not 7 or 9", x, x.settled(), 8);
    StampViews never = Due.at(RESTLESS);
    Due.fine("-2: not in 20", never, never.settled(), -2);
    StampViews once = Due.at(Due.BARE + ";stamp s ink 0 else no;stamp t ink 0 else no");
    Due.fine("1", once, once.settled(), 1);
    StampViews atOnce = Due.at(Due.BARE + ";stamp s ink 0 else yes;stamp t ink 0 else yes");
    Due.fine("0", atOnce, atOnce.settled(), 0);
    StampViews none = Due.at(Due.BARE);
    Due.fine("0: no stamps", none, none.settled(), 0);
    never.carve(0, 0);
    never.carve(1, 0);
    never.carve(2, 0);
    Due.fine("all but the fourth say no of all: none is good", never, never.settled(), 1);
    Due.refused("no office", Due::fresh, StampViews::settled, 1);
  }

  private static void steadyFromOneToAll() {
    Due.part("promise 33");
    StampViews none = Due.at(Due.BARE);
    Due.fine("the empty set alone", none, none.steady(), 1);
    StampViews all = Due.at(Due.BARE + ";stamp s ink 0 else faint;stamp t ink 0 else faint;stamp u ink 0 else faint;stamp v ink 0 else faint");
    Due.fine("all 16", all, all.steady(), 16);
    StampViews few = Due.at(Due.BARE + ";stamp s ink 0 else no;stamp t ink 0 else no;stamp u ink 0 else no;stamp v ink 0 else no");
    Due.fine("each alone, and none", few, few.steady(), 5);
    StampViews slow = Due.at(SLOW);
    Due.fine("none, and that behind 8 months", slow, slow.steady(), 2);
    Due.refused("no office", Due::fresh, StampViews::steady, 1);
  }

  // ---- a clerk, an applicant

  private static void hasHalfDownwards() {
    Due.part("promise 34");
    for (int worth : new int[] {0, 1, 2, 3, 98, 99}) {
      StampViews x = Due.at(ZERO + "paper p worth " + worth + ";stamp s ink 0 else no;stamp t ink 0 else yes;stamp u ink 0 else faint");
      Due.fine("no", x, x.has(0, 0), 0);
      Due.fine("yes", x, x.has(1, 0), worth);
      Due.fine("faint", x, x.has(2, 0), (worth - worth % 2) / 2);
    }
  }

  private static void clerkAndApplicant() {
    Due.part("promises 35 to 38");
    StampViews x = Due.at(ZERO + "paper p worth 99;paper q worth 99;stamp s ink 0 else yes;stamp t ink 0 else yes");
    Due.fine("99 at most", x, x.clerks(), 99);
    Due.fine("99 at least", x, x.applicants(), 99);
    Due.fine("0: the first stamp", x, x.clerkPicks(), 0);
    Due.fine("all pairs", x, x.even(), 4);
    StampViews y = Due.at(ZERO + "paper p worth 99;paper q worth 99;stamp s ink 0 else yes;stamp t ink 0 else no");
    Due.fine("0: nothing", y, y.clerks(), 0);
    Due.fine("0: nothing at least", y, y.applicants(), 0);
    Due.fine("the last stamp", y, y.clerkPicks(), 1);
    Due.fine("by the last stamp any paper", y, y.even(), 2);
    StampViews z = Due.at(ZERO + "mark m;paper p worth 9;paper q worth 9,m;stamp s ink 0 else yes;stamp t ink 0 else no;rule s m no;rule t m yes");
    Due.fine("0: none is even", z, z.even(), 0);
    Due.fine("9 at most by both", z, z.clerks(), 9);
    Due.fine("0 at least by both", z, z.applicants(), 0);
    StampViews first = Due.at(ZERO + "paper p worth 9;paper q worth 3;stamp s ink 0 else yes;stamp t ink 0 else faint");
    Due.fine("the first paper is best", first, first.applicants(), 4);
    Due.fine("half of it at most", first, first.clerks(), 4);
    StampViews worthless = Due.at(ZERO + "paper p worth 0;stamp s ink 0 else yes");
    Due.fine("worth 0", worthless, worthless.clerks() + worthless.applicants() + worthless.clerkPicks(), 0);
    StampViews full = Due.at(ZERO + "paper p worth 1;paper q worth 1;paper r worth 1;paper s worth 1;paper t worth 1;"
        + "stamp a ink 0 else no;stamp b ink 0 else no;stamp c ink 0 else no;stamp d ink 0 else faint");
    Due.fine("all 20: half of 1 is nothing", full, full.even(), 20);
    Due.refused("no office", Due::fresh, StampViews::clerks, 1);
    Due.refused("no stamp", Due::bare, StampViews::clerks, 6);
    Due.refused("no office", Due::fresh, StampViews::applicants, 1);
    Due.refused("no stamp", Due::bare, StampViews::applicants, 6);
    Due.refused("no office", Due::fresh, StampViews::clerkPicks, 1);
    Due.refused("no stamp", Due::bare, StampViews::clerkPicks, 6);
    Due.refused("no office", Due::fresh, StampViews::even, 1);
    Due.refused("no stamp", Due::bare, StampViews::even, 6);
    StampViews noHand = Due.at(Due.BARE + ";stamp s ink 0 else yes");
    Due.fine("a hand needs not be", noHand, noHand.clerks(), 5);
  }

  // ---- moods, draws

  private static void sureAndMean() {
    Due.part("promises 39 and 40");
    String told = ZERO + "paper p worth 99;paper q worth 99;paper r worth 99;paper s worth 99;paper t worth 99;"
        + "stamp y ink 0 else yes;stamp n ink 0 else no;hand f straight moody 0;hand g straight moody 100;hand h straight moody 1";
    StampViews x = Due.at(told);
    Due.fraction("five times 99", x.mean(0, 0, false), x.mean(0, 0, true), 495, 1);
    Due.fraction("0 by 1: always faint", x.mean(0, 1, false), x.mean(0, 1, true), 0, 1);
    Due.fraction("99 of 100", x.mean(0, 2, false), x.mean(0, 2, true), 9801, 20);
    Due.fraction("0 by 1: no", x.mean(1, 0, false), x.mean(1, 0, true), 0, 1);
    Due.fraction("sure", x.sure(0, 0, 0, 1, false), x.sure(0, 0, 0, 1, true), 1, 1);
    Due.fraction("never", x.sure(0, 0, 0, 2, false), x.sure(0, 0, 0, 2, true), 0, 1);
    Due.fraction("always faint", x.sure(0, 1, 0, 2, false), x.sure(0, 1, 0, 2, true), 1, 1);
    Due.fraction("never yes", x.sure(0, 1, 0, 1, false), x.sure(0, 1, 0, 1, true), 0, 1);
    Due.fraction("once in 100", x.sure(0, 2, 4, 2, false), x.sure(0, 2, 4, 2, true), 1, 100);
    for (boolean lower : new boolean[] {false, true}) {
      Due.refused("verdict 3", Due::full, z -> z.sure(0, 0, 0, 3, lower), 2);
      Due.refused("no such paper is told ahead of no verdict", Due::full, z -> z.sure(0, 0, 5, 3, lower), 1);
      Due.refused("the fourth hand of three", Due::full, z -> z.mean(0, 3, lower), 1);
      Due.refused("the fifth stamp of four", Due::full, z -> z.mean(4, 0, lower), 1);
      Due.refused("no hand", Due::bare, z -> z.mean(0, 0, lower), 1);
    }
  }

  /** With one stamp, hand and paper each press takes four draws, and a fifth one behind a faint print. */
  private static StampViews one(String said, int moody, int birds) {
    return Due.at("office birds " + birds + ";paper p worth 1;stamp s ink 0 else " + said + ";hand h straight moody " + moody);
  }

  private static void drawsAtTheirBounds() {
    Due.part("promises 41 and 42");
    StampViews x = one("yes", 50, 50);
    for (int n : new int[] {0, 1, 89, 90}) {
      for (int seed : new int[] {0, 1, 65535, 65536}) {
        int sum = 0;
        for (int v = 0; v < 3; v++) sum += x.presses(v, seed, n);
        Due.fine("all of " + n + " have a verdict", x, sum, n);
      }
    }
    for (String said : new String[] {"no", "yes", "faint"}) {
      StampViews again = one(said, 0, 100);
      for (int i = 0; i < 3; i++) {
        for (int v = 0; v < 3; v++) Due.fine("counted anew", again, again.presses(v, 7, 90), again.says(0, 0) == v ? 90 : 0);
        Due.fine("birds counted anew", again, again.birds(7, 90), said.equals("faint") ? 90 : 0);
      }
    }
    Due.fine("0: none pressed", x, x.birds(0, 0), 0);
    Due.fine("-2: none pressed", x, x.printed(0, 0, 0), -2);
    // By 1453 the fourth and the fifth draw are 2100 and 26500: 0 of 100.
    Due.is("below 1", one("yes", 1, 0).presses(2, 1453, 1), 1);
    Due.is("not below 0", one("yes", 0, 0).presses(2, 1453, 1), 0);
    Due.is("a bird below 1", one("faint", 0, 1).birds(1453, 1), 1);
    Due.is("none below 0", one("faint", 0, 0).birds(1453, 1), 0);
    // By 4986 they are 399 and 29999: 99 of 100.
    Due.is("below 100", one("yes", 100, 0).presses(2, 4986, 1), 1);
    Due.is("not below 99", one("yes", 99, 0).presses(2, 4986, 1), 0);
    Due.is("a bird below 100", one("faint", 0, 100).birds(4986, 1), 1);
    Due.is("none below 99", one("faint", 0, 99).birds(4986, 1), 0);
    Due.is("no bird behind yes", one("yes", 0, 100).birds(4986, 90), 0);
    Due.is("no bird behind no", one("no", 0, 100).birds(4986, 90), 0);
    Due.is("90 birds", one("no", 100, 100).birds(4986, 90), 90);
    for (int bad : new int[] {MIN, -1, 91, MAX}) {
      Due.refused("n", Due::town, z -> z.presses(0, 0, bad), 2);
      Due.refused("n", Due::town, z -> z.birds(0, bad), 2);
      Due.refused("n", Due::town, z -> z.printed(0, 0, bad), 2);
    }
    for (int bad : new int[] {MIN, -1, 65537, MAX}) {
      Due.refused("seed", Due::town, z -> z.presses(0, bad, 0), 2);
      Due.refused("seed", Due::town, z -> z.birds(bad, 0), 2);
      Due.refused("seed", Due::town, z -> z.printed(0, bad, 0), 2);
    }
    Due.refused("verdict 3", Due::town, z -> z.presses(3, 0, 0), 2);
    Due.refused("no stamp, no hand", Due::bare, z -> z.presses(0, 0, 0), 6);
    Due.refused("no stamp, no hand", Due::bare, z -> z.birds(0, 0), 6);
    Due.refused("no stamp, no hand", Due::bare, z -> z.printed(0, 0, 0), 6);
    Due.refused("a number is told ahead of no stamp", Due::bare, z -> z.presses(3, 0, 0), 2);
    Due.refused("no office is told ahead of a number", Due::fresh, z -> z.birds(-1, 91), 1);
  }

  private static void drawsWrapRound() {
    Due.part("terms III, (75 times SEED and 74) mod 65,537");
    // 65,536 comes behind 65,536: 0 of 2 and 4, 1 of 3 and 5, 36 of 100, for ever.
    Due.is("mood 36 of 37", one("yes", 37, 0).presses(2, 65536, 90), 90);
    Due.is("mood 36 of 36", one("yes", 36, 0).presses(1, 65536, 90), 90);
    Due.is("bird 36 of 37", one("faint", 0, 37).birds(65536, 90), 90);
    Due.is("bird 36 of 36", one("faint", 0, 36).birds(65536, 90), 0);
    StampViews x = Due.at("office birds 0;paper p worth 1;paper q worth 1;paper r worth 1;paper s worth 1;paper t worth 1;"
        + "stamp a ink 0 else yes;stamp b ink 0 else no;stamp c ink 0 else no;stamp d ink 0 else no;"
        + "hand f straight moody 0;hand g cross moody 0;hand h straight moody 0");
    Due.fine("stamp 0, hand 1: a cross one by yes", x, x.presses(0, 65536, 90), 90);
    for (int p = 0; p < 5; p++) Due.fine("paper 1 alone", x, x.printed(p, 65536, 90), p == 1 ? 0 : -2);
    // By 45,438 the first draw is 0 (65,537 times 52): then 74, 5624, 28652 (mood 52), behind a faint one 51790 (90).
    Due.is("mood 52 of 53", one("yes", 53, 0).presses(2, 45438, 1), 1);
    Due.is("mood 52 of 52", one("yes", 52, 0).presses(2, 45438, 1), 0);
    Due.is("bird 90 of 91", one("faint", 0, 91).birds(45438, 1), 1);
    Due.is("bird 90 of 90", one("faint", 0, 90).birds(45438, 1), 0);
    // By 0: moods 90 and, with no faint one between, 44; behind a faint one the fifth draw is a bird's, the next mood 4.
    Due.is("no fifth draw behind yes", one("yes", 45, 0).presses(2, 0, 2), 1);
    Due.is("a fifth draw behind faint", one("yes", 91, 0).presses(2, 0, 2), 2);
    Due.is("the ninth draw is the second mood then: 4", one("no", 91, 5).presses(2, 0, 2), 2);
  }

  private static void printedOrNot() {
    Due.part("promise 43");
    StampViews x = one("no", 0, 0);
    Due.fine("-2: it wasn't pressed", x, x.printed(0, 5, 0), -2);
    Due.fine("0: no", x, x.printed(0, 5, 1), 0);
    Due.fine("90", x, x.printed(0, 5, 90), 0);
    Due.fine("nothing is printed by it", x, x.paper(0, 3), -2);
    Due.fine("no ink is needed", x, x.stamp(0, 0), 0);
    StampViews y = one("yes", 45, 0);
    Due.fine("the first: mood 90", y, y.printed(0, 0, 1), 1);
    Due.fine("the second: mood 44", y, y.printed(0, 0, 2), 2);
    Due.fine("the first again: each run by itself", y, y.printed(0, 0, 1), 1);
    Due.refused("no such paper", Due::town, z -> z.printed(3, 0, 0), 1);
    Due.refused("no such paper is told ahead of a number", Due::town, z -> z.printed(-1, -1, 91), 1);
    Due.refused("no such paper is told ahead of no stamp", Due::bare, z -> z.printed(1, 0, 0), 1);
  }

  private static void drawsOneByOne() {
    Due.part("terms III, PRESSES by a SEED");
    // By 0: 74, 5624, 28652 (u, c, r: faint), 51790; 17641 (41: a bird); 12409, 13231, 9344 (t, b, r: yes), 45504;
    // 4950, 43639, 61686 (s, b, p: yes), 38934.
    StampViews x = Due.at(Due.TOWN);
    int[][] counts = {{0, 0, 0}, {0, 0, 1}, {0, 1, 1}, {0, 2, 1}};
    int[][] latest = {{-2, -2, -2}, {-2, -2, 2}, {-2, -2, 1}, {1, -2, 1}};
    for (int n = 0; n <= 3; n++) {
      for (int v = 0; v < 3; v++) Due.fine(n + " presses, verdict " + v, x, x.presses(v, 0, n), counts[n][v]);
      for (int p = 0; p < 3; p++) Due.fine(n + " presses, paper " + p, x, x.printed(p, 0, n), latest[n][p]);
      Due.fine("birds in " + n, x, x.birds(0, n), n == 0 ? 0 : 1);
    }
    x.carve(3, 0);
    Due.fine("the second by a rule as it is now", x, x.printed(2, 0, 3), 0);
    Due.fine("no, yes, faint: one of each", x, x.presses(0, 0, 3) * 100 + x.presses(1, 0, 3) * 10 + x.presses(2, 0, 3), 111);
    x.mark(0, 0, false);
    Due.fine("the third by marks as they are now: faint by a kind one", x, x.printed(0, 0, 3), 1);
    Due.fine("it isn't faint that is printed", x, x.presses(2, 0, 3), 1);
  }

  private static void allByRulesNow() {
    Due.part("rules as NOW");
    StampViews x = Due.at(Due.TOWN);
    Due.fraction("s can't have printed no on q", x.odds(0, false), x.odds(0, true), 0, 1);
    Due.fraction("t says yes of r", x.next(2, 0, 1, false), x.next(2, 0, 1, true), 4, 5);
    x.carve(4, 0);
    Due.fine("s of seal", x, x.saysOf(0, 4), 0);
    Due.fine("s of q", x, x.says(0, 1), 0);
    Due.fine("by the same rule", x, x.byRule(0, 1), 4);
    Due.fine("no of q, by s and t", x, x.sayers(1, 0), 3);
    Due.fraction("s can have", x.odds(0, false), x.odds(0, true), 1, 2);
    Due.fine("the first of both", x, x.likeliest(), 0);
    Due.fraction("t says yes of r, s doesn't", x.next(2, 0, 1, false), x.next(2, 0, 1, true), 2, 5);
    Due.fine("nothing for q", x, x.has(0, 1), 0);
    Due.fraction("no by a", x.sure(0, 0, 1, 0, false), x.sure(0, 0, 1, 0, true), 4, 5);
    Due.fraction("p alone by a", x.mean(0, 0, false), x.mean(0, 0, true), 32, 1);
    Due.fine("seal taken off q: faint", x, x.reword(1, 0, 2), 4);
    Due.fine("widow put on q: yes", x, x.reword(1, 0, 1), 1);
    x.carve(0, 0);
    Due.fine("s gives 4 at most", x, x.clerks(), 4);
    Due.fine("by s", x, x.clerkPicks(), 0);
    Due.fine("t of s: not widow", x, x.judges(1, 0), 1);
    x.carve(3, 0);
    Due.fine("no", x, x.judges(1, 0), 0);
    Due.fine("s isn't good behind a month: t says no, u is faint", x, x.good(1) & 1, 0);
    StampViews y = Due.at(Due.TOWN);
    Due.fine("r by t and the cross hand", y, y.keptBy(2), 12);
    y.carve(3, 0);
    Due.fine("r by t and the straight one", y, y.keptBy(2), 10);
    Due.fine("all three still", y, y.kept(), 3);
  }

  private static void allByMarksNow() {
    Due.part("papers as NOW");
    StampViews x = Due.at(Due.TOWN);
    x.mark(1, 2, false);
    x.mark(1, 1, false);
    Due.fine("s says faint of q", x, x.says(0, 1), 2);
    Due.fine("t says yes of q", x, x.says(1, 1), 1);
    Due.fine("by another rule", x, x.byRule(1, 1), 3);
    Due.fine("faint by s and u", x, x.sayers(1, 2), 5);
    Due.fraction("no on q can't be now", x.odds(1, false), x.odds(1, true), 0, 1);
    Due.fine("there is none", x, x.likeliest(), -2);
    Due.fine("half of q", x, x.has(0, 1), 30);
    Due.fine("60 by t", x, x.has(1, 1), 60);
    Due.fraction("40, 60 and 9 by t and b", x.mean(1, 1, false), x.mean(1, 1, true), 109, 1);
    Due.fine("u gives 30 for q", x, x.clerks(), 30);
    Due.fine("q by t and a straight hand", x, x.keptBy(1), 10);
    Due.fine("judged by their own marks, as told", x, x.judges(0, 1), 2);
    Due.fine("laws: no for q, yes or faint for p", x, x.laws(), 2);
  }

  // ---- acts

  private static void pressDownToNoInk() {
    Due.part("promise 44");
    StampViews x = Due.at(ZERO + "paper p worth 1;paper q worth 1;stamp s ink 9 else yes;stamp t ink 1 else no;hand h straight moody 100");
    for (int ink = 9; ink > 0; ink--) {
      Due.fine("ink ahead", x, x.stamp(0, 0), ink);
      Due.fine("press", x, x.press(0, 0, 0), 1);
    }
    Due.is("no ink", x.press(0, 0, 1), -1);
    Due.is("by 6", x.trouble(), 6);
    Due.is("nothing printed", x.paper(1, 3), -2);
    Due.is("nine presses", x.size(8), 9);
    Due.is("nine acts", x.size(9), 9);
    Due.fine("0: no is printed by the other", x, x.press(1, 0, 0), 0);
    x.fill(0, 1);
    Due.fine("filled to 1, once more", x, x.press(0, 0, 1), 1);
    Due.is("and no more", x.press(0, 0, 1), -1);
    Due.refused("no ink", Due::town, z -> z.press(0, 0, 0), 6);
    Due.refused("no ink from the first", Due::full, z -> z.press(2, 0, 5), 1);
    Due.refused("no such hand is told ahead of no ink", Due::town, z -> z.press(0, 3, 0), 1);
  }

  private static void carveWhatIsSo() {
    Due.part("promise 45");
    for (int v = 0; v < 3; v++) {
      int verdict = v;
      StampViews x = Due.full();
      boolean so = x.rule(9, 3) == v;
      if (so) Due.denied("it is so", Due::full, z -> Due.asLong(z.carve(9, verdict)), 5);
      else Due.done("carve", x, x.carve(9, v));
      Due.is("verdict", x.rule(9, 3), v);
    }
    Due.denied("it is so since", Due::full, z -> Due.asLong(z.carve(0, 2)), 5);
    Due.denied("verdict 3", Due::full, z -> Due.asLong(z.carve(0, 3)), 2);
    Due.denied("verdict -1", Due::full, z -> Due.asLong(z.carve(0, -1)), 2);
    Due.denied("the eleventh of ten", Due::full, z -> Due.asLong(z.carve(10, 0)), 1);
    Due.denied("no such rule is told ahead of no verdict", Due::full, z -> Due.asLong(z.carve(10, 3)), 1);
    StampViews one = Due.at(Due.TOWN);
    one.carve(0, 0);
    Due.is("the others stay", one.rule(1, 3) * 1000 + one.rule(2, 3) * 100 + one.rule(3, 3) * 10 + one.rule(4, 3), 211);
  }

  private static void markWhatIsSo() {
    Due.part("promise 46");
    StampViews x = Due.at(Due.FULL);
    for (int m = 4; m >= 0; m--) {
      Due.done("off p", x, x.mark(0, m, false));
      Due.is("left", x.paper(0, 1), (1 << m) - 1);
    }
    for (int m = 0; m <= 4; m++) {
      Due.done("on q", x, x.mark(1, m, true));
      Due.is("on", x.paper(1, 1), (2 << m) - 1);
    }
    for (int m = 0; m <= 4; m++) {
      int mark = m;
      Due.denied("it is on", () -> Due.at(Due.FULL), z -> Due.asLong(z.mark(0, mark, true)), 5);
      Due.denied("it is off", () -> Due.at(Due.FULL), z -> Due.asLong(z.mark(1, mark, false)), 5);
    }
    for (boolean is : new boolean[] {false, true}) {
      for (int m : new int[] {MIN, -1, 5, 32, MAX}) Due.denied("mark " + m, Due::full, z -> Due.asLong(z.mark(0, m, is)), 1);
      for (int p : new int[] {MIN, -1, 5, MAX}) Due.denied("paper " + p, Due::full, z -> Due.asLong(z.mark(p, 0, is)), 1);
      Due.denied("no marks", Due::bare, z -> Due.asLong(z.mark(0, 0, is)), 1);
    }
  }

  private static void fillFrom1To9() {
    Due.part("promise 47");
    for (int has = 0; has <= 9; has++) {
      String text = Due.BARE + ";stamp s ink " + has + " else no";
      for (int ink = -1; ink <= 11; ink++) {
        int to = ink;
        if (ink < 1 || ink > 9) Due.denied("to " + ink, () -> Due.at(text), z -> Due.asLong(z.fill(0, to)), 2);
        else if (ink <= has) Due.denied(ink + " of " + has, () -> Due.at(text), z -> Due.asLong(z.fill(0, to)), 5);
        else {
          StampViews x = Due.at(text);
          Due.done("to " + ink, x, x.fill(0, ink));
          Due.is("ink", x.stamp(0, 0), ink);
          Due.is("one act", x.size(9), 1);
          Due.is("not pressed", x.stamp(0, 4), 0);
        }
      }
    }
    for (int ink : new int[] {MIN, MAX}) Due.denied("to " + ink, Due::town, z -> Due.asLong(z.fill(0, ink)), 2);
    Due.denied("no such stamp is told ahead of a number", Due::town, z -> Due.asLong(z.fill(3, 10)), 1);
  }

  private static final String MANY_MARKS = FIVE_MARKS + "paper p worth 1;paper q worth 1;stamp s ink 9 else yes;hand h straight moody 0;rule s a no";

  /** Thirty acts, each of which leaves another state. */
  private static void act(StampViews x, int i) {
    if (i < 5) x.mark(0, i, true);
    else if (i < 10) x.mark(1, i - 5, true);
    else if (i < 15) x.mark(0, i - 10, false);
    else if (i < 24) x.press(0, 0, i % 2);
    else if (i == 24) x.fill(0, 4);
    else if (i == 25) x.carve(0, 2);
    else x.mark(1, i - 26, false);
  }

  /** All that those acts change, in few calls, so that an object stays below its 512. */
  private static String changed(StampViews x) {
    return x.paper(0, 1) + " " + x.paper(1, 1) + " " + x.paper(0, 3) + " " + x.paper(1, 3) + " " + x.stamp(0, 0) + " " + x.rule(0, 3)
        + " " + x.size(8);
  }

  private static void sixteenAreKept() {
    Due.part("terms III, 16 are kept");
    for (int acts : new int[] {0, 1, 15, 16, 17, 18, 30}) {
      StampViews x = Due.at(MANY_MARKS);
      String[] ahead = new String[31];
      for (int i = 0; i < acts; i++) {
        ahead[i] = changed(x);
        act(x, i);
        Due.is("that can be undone", x.size(9), Math.min(16, i + 1));
      }
      int kept = Math.min(16, acts);
      for (int i = 0; i < kept; i++) {
        Due.done("undo " + i + " of " + acts, x, x.undo());
        Due.same("as ahead of act " + (acts - 1 - i), changed(x), ahead[acts - 1 - i]);
        Due.is("that can be undone", x.size(9), kept - 1 - i);
      }
      String last = changed(x);
      Due.is("no more", Due.asLong(x.undo()), 0);
      Due.is("by 6", x.trouble(), 6);
      Due.same("it stays", changed(x), last);
      Due.is("none that can be undone", x.size(9), 0);
    }
  }

  private static void undoWrapsRound() {
    Due.part("terms III, 16 are kept, again and again");
    StampViews x = Due.at(Due.BARE + ";mark a;mark b;mark c;mark d;mark e");
    int[] seen = new int[200];
    int top = 0;
    int kept = 0;
    for (int step = 0; step < 60; step++) {
      for (int i = 0; i < step % 4; i++) {
        seen[top++] = x.paper(0, 1);
        int m = (step + i) % 5;
        x.mark(0, m, (x.paper(0, 1) >> m & 1) == 0);
        kept = Math.min(16, kept + 1);
      }
      if (step % 5 < 2 && kept > 0) {
        Due.is("undone", Due.asLong(x.undo()), 1);
        Due.is("marks", x.paper(0, 1), seen[--top]);
        kept--;
      }
    }
    Due.is("kept", x.size(9), kept);
    for (; kept > 0; kept--) {
      x.undo();
      Due.is("marks down to the last", x.paper(0, 1), seen[--top]);
    }
    Due.is("no more", Due.asLong(x.undo()), 0);
  }

  private static void whatIsUndone() {
    Due.part("promise 48");
    StampViews x = Due.at(Due.TOWN);
    String first = Due.now(x);
    x.press(1, 1, 1);
    String second = Due.now(x);
    x.press(1, 2, 1);
    Due.is("refused acts aren't kept", x.press(1, 0, 1) + Due.asLong(x.carve(0, 1)) + Due.asLong(x.mark(0, 0, true)) + Due.asLong(x.fill(0, 1)), -1);
    Due.is("two", x.size(9), 2);
    Due.is("an image is no act", x.image(), 0);
    Due.is("two still", x.size(9), 2);
    Due.done("undo", x, x.undo());
    Due.same("the press alone", Due.now(x), second);
    Due.is("an undoing is no act", x.size(9), 1);
    Due.is("images stay", x.size(10), 1);
    Due.done("undo", x, x.undo());
    Due.same("as at first", Due.now(x), first);
    Due.denied("nothing to undo", () -> Due.at(Due.TOWN), z -> Due.asLong(z.undo()), 6);
    Due.done("the image is as it was", x, x.back(0));
    Due.is("two presses", x.size(8), 2);
  }

  private static void imagesUpToThree() {
    Due.part("promise 49");
    StampViews x = Due.at(Due.TOWN);
    String[] by = new String[3];
    for (int i = 0; i < 3; i++) {
      x.mark(2, i, true);
      by[i] = Due.now(x);
      Due.fine("image " + i, x, x.image(), i);
      Due.is("so many", x.size(10), i + 1);
    }
    x.press(0, 0, 0);
    for (int i = 0; i < 2; i++) {
      Due.is("the fourth", x.image(), -1);
      Due.is("by 3", x.trouble(), 3);
      Due.is("three stay", x.size(10), 3);
    }
    for (int i = 2; i >= 0; i--) {
      Due.done("back " + i, x, x.back(i));
      Due.same("as by it", Due.now(x), by[i]);
    }
    Due.is("no room still", x.image(), -1);
    Due.refused("the fourth", StampViewsBounds::withThreeImages, StampViews::image, 3);
    Due.refused("no office", Due::fresh, StampViews::image, 1);
    StampViews bare = Due.at(Due.BARE);
    Due.fine("nothing but a paper", bare, bare.image(), 0);
  }

  private static StampViews withThreeImages() {
    StampViews x = Due.town();
    x.image();
    x.mark(2, 2, true);
    return x;
  }

  private static void goneBack() {
    Due.part("promise 50");
    StampViews x = Due.at(Due.TOWN);
    x.mark(2, 0, true);
    x.image();
    String by = Due.now(x);
    x.press(0, 0, 0);
    x.carve(1, 2);
    x.fill(2, 4);
    Due.is("four acts", x.size(9), 4);
    Due.done("back", x, x.back(0));
    Due.same("all is as by it", Due.now(x), by);
    Due.is("nothing can be undone", x.size(9), 0);
    Due.is("undo", Due.asLong(x.undo()), 0);
    Due.is("by 6", x.trouble(), 6);
    Due.is("it stays", x.size(10), 1);
    x.mark(2, 1, true);
    Due.is("one act since", x.size(9), 1);
    Due.done("undone", x, x.undo());
    Due.same("down to the image", Due.now(x), by);
    Due.is("and no further", Due.asLong(x.undo()), 0);
    x.press(0, 0, 0);
    Due.done("back again", x, x.back(0));
    Due.same("the image hasn't changed", Due.now(x), by);
    for (int i : new int[] {MIN, -1, 1, 2, 3, MAX}) {
      Due.is("back " + i, Due.asLong(x.back(i)), 0);
      Due.is("by 1", x.trouble(), 1);
    }
    for (int i : new int[] {MIN, -1, 2, 3, MAX}) Due.denied("back " + i, Due::town, z -> Due.asLong(z.back(i)), 1);
    Due.denied("the fourth of three", StampViewsBounds::withThreeImages, z -> Due.asLong(z.back(3)), 1);
    StampViews faulty = Due.at(Due.TOWN);
    faulty.image();
    Due.tell(faulty, "office");
    Due.done("images stay behind a fault", faulty, faulty.back(0));
    Due.tell(faulty, Due.TOWN);
    Due.is("not behind a new office", Due.asLong(faulty.back(0)), 0);
  }

  // ---- what is told

  private static void ledOrThrows() {
    Due.part("promise 51");
    StampViews x = Due.at(Due.FULL.replace("ink 0", "ink 9").replace("ink 1", "ink 9").replace("ink 5", "ink 9"));
    for (int i : new int[] {MIN, -1, 0, 1, MAX}) Due.is("none yet", Due.led(x, i), Due.THROWS);
    for (int k = 0; k < 10; k++) x.carve(k, 1);
    for (int p = 4; p >= 0; p--) {
      x.press(0, 0, p);
      Due.is("so many", Due.led(x, 4 - p), 4);
      Due.is("no more", Due.led(x, 5 - p), Due.THROWS);
      Due.is("the first by numbers", Due.led(x, 0), p);
    }
    for (int i = 0; i < 5; i++) Due.is("all five", Due.led(x, i), i);
    for (int i : new int[] {MIN, -1, 5, 6, MAX}) Due.is("none such", Due.led(x, i), Due.THROWS);
    x.press(0, 2, 2);
    Due.is("no is latest on the third", Due.led(x, 2), 3);
    Due.is("four", Due.led(x, 4), Due.THROWS);
    x.says(9, 9);
    Due.led(x, 9);
    Due.is("a throw leaves trouble", x.trouble(), 1);
    x.says(0, 0);
    Due.led(x, 9);
    Due.is("0, too", x.trouble(), 0);
    Due.is("no office", Due.led(new StampViews(), 0), Due.THROWS);
    StampViews beside = Due.at(FIVE_MARKS + "paper p worth 1;paper q worth 1;paper r worth 1;paper s worth 1;paper t worth 1,a;"
        + "stamp u ink 1 else no;hand h straight moody 0");
    Due.is("marks and ink of 1 are no yes", Due.led(beside, 0), Due.THROWS);
    String before = Due.now(x);
    Due.led(x, -1);
    Due.same("all stays", Due.now(x), before);
  }

  private static void sizesFrom0To11() {
    Due.part("promise 52");
    StampViews x = Due.at(Due.FULL);
    x.press(0, 0, 0);
    x.press(0, 0, 0);
    x.carve(0, 1);
    x.image();
    Due.feed(x, "office");
    int[] full = {100, 5, 5, 4, 10, 3, 5, 4, 2, 3, 1, 20};
    for (int what = 0; what <= 11; what++) Due.is("size " + what, x.size(what), full[what]);
    StampViews bare = Due.at(Due.BARE);
    int[] few = {7, 0, 1, 0, 0, 0, 0, 0, 0, 0, 0, 0};
    for (int what = 0; what <= 11; what++) Due.is("0 for what there isn't: " + what, bare.size(what), few[what]);
    for (int what : new int[] {MIN, -2, -1, 12, 13, MAX}) {
      Due.is("others", x.size(what), -1);
      Due.is("others, no office", new StampViews().size(what), -1);
    }
    StampViews y = new StampViews();
    Due.feed(y, "office");
    for (int what = 0; what <= 10; what++) Due.is("no office: " + what, y.size(what), 0);
    Due.is("the tape all the same", y.size(11), 20);
    StampViews birds = Due.at("office birds 0;paper p worth 5");
    Due.is("0 birds", birds.size(0), 0);
    for (int i = 0; i < 20; i++) x.mark(1, 0, i % 2 == 0);
    Due.is("16 acts at most", x.size(9), 16);
    x.undo();
    Due.is("one less", x.size(9), 15);
    Due.is("presses stay", x.size(8), 2);
    x.carve(9, 2);
    Due.is("whatever the last rule", x.size(8), 2);
  }

  private static void troubleBehindEachCall() {
    Due.part("promise 53");
    StampViews x = Due.at(Due.TOWN);
    for (int i = 0; i < 4; i++) x.image();
    Due.is("3", x.trouble(), 3);
    Runnable[] quiet = {() -> x.feed(0, 0, 0, 0, 0), x::fault, x::where, () -> Due.led(x, 0), () -> x.size(0), () -> x.size(-1), x::trouble};
    for (Runnable call : quiet) {
      call.run();
      Due.is("3 stays behind a call of which no number is told", x.trouble(), 3);
    }
    Due.is("2", x.office(999), -1);
    Due.is("2", x.trouble(), 2);
    Due.is("0", x.kept(), 3);
    Due.is("0", x.trouble(), 0);
    Due.is("4", x.office(20), -1);
    Due.is("4", x.trouble(), 4);
    for (int i = 0; i < 46; i++) x.feed(0, 0, 0, 0, 0);
    Due.is("4 stays behind a refused feed", x.trouble(), 4);
    Due.is("and where", x.where(), 0);
    Due.is("5", Due.asLong(x.mark(0, 0, true)), 0);
    Due.is("5", x.trouble(), 5);
    Due.is("6", Due.asLong(x.undo()), 0);
    Due.is("6", x.trouble(), 6);
    Due.is("1", x.hand(3, 0), -1);
    Due.is("1", x.trouble(), 1);
    Due.done("0", x, x.back(2));
    StampViews never = new StampViews();
    Due.led(never, 0);
    never.size(99);
    never.feed(0, 0, 0, 0, 0);
    Due.is("no call yet that may be refused", never.trouble(), 0);
  }

  private static void call512() {
    Due.part("the 512th call");
    StampViews x = Due.at(Due.BARE + ";mark m;stamp s ink 9 else yes;hand h kind moody 0");
    int calls = 5; // four of feed, one of office
    for (int i = 0; calls < 509; calls++, i++) {
      Due.is("call " + calls, Due.asLong(x.mark(0, 0, i % 2 == 0)), 1);
    }
    Due.is("call 510", x.press(0, 0, 0), 1);
    Due.is("call 511", x.size(9), 16);
    Due.is("call 512", Due.asLong(x.undo()), 1);
    for (int i = 0; i < 5000; i++) {
      x.mark(0, 0, i % 2 == 0);
      x.fill(0, 9);
      x.press(0, 0, 0);
      x.image();
      x.back(i % 4);
      x.feed(i, i, i, i, i);
      x.office(i % 99);
      if (i % 3 == 0) x.undo();
    }
    Due.holds("later calls end without a throw", true);
  }
}
