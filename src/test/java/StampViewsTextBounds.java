import java.util.function.Supplier;

/**
 * The bounds of the tape and of the text (terms I; promises 2 to 5): each at its bound, just below and just above it,
 * each fault with its place, and that the office and all else stay as they were when a text is refused.
 */
public final class StampViewsTextBounds {
  private static final String HEAD = "office birds 5;";
  private static final String FIVE_MARKS = HEAD + "mark a;mark b;mark c;mark d;mark e;";
  private static final String[] NOT_NAMES = {"office", "mark", "paper", "stamp", "rule", "hand", "want", "print", "not"};
  private static final String[] OTHER_WORDS = {"birds", "worth", "ink", "else", "moody", "yes", "no", "faint", "straight", "kind",
      "stern", "cross"};
  private static final String[] VERDICTS = {"no", "yes", "faint"};
  private static final String[] KINDS = {"straight", "kind", "stern", "cross"};

  public static void main(String[] args) {
    tapeOf900();
    numbersOfBytes();
    bytesComeHighestFirst();
    firstBytesAlone();
    refusedByTwo();
    refusedByFour();
    newOfficeForgets();
    nothingIsLeftOfTexts();
    faultIsOfTheLatest();
    whereIsOfTheLatest();
    endsOfText();
    everyByte();
    lengthsOfWords();
    lengthsOfWholes();
    boundsOfWholes();
    boundsOfCounts();
    namesAreWordsBut();
    verdictsAndKinds();
    formsOfLines();
    namesNotTold();
    namesToldAgain();
    marksAndWantsAgain();
    officeAheadOfAll();
    paperLacks();
    leastNumberOfOnePlace();
    firstFromTheLeft();
    everyPrefixAndChange();
    Due.end();
  }

  /** A fault at the place that the sign ^ marks; with a new object, and with an office that must stay. */
  private static void faulty(int fault, String marked) {
    int place = marked.indexOf('^');
    faultyAt(fault, place, marked.substring(0, place) + marked.substring(place + 1));
  }

  private static void faultyAt(int fault, int place, String text) {
    faultyIn(StampViews::new, fault, place, text);
    faultyIn(StampViewsTextBounds::townWithoutTape, fault, place, text);
  }

  private static StampViews townWithoutTape() {
    StampViews x = Due.town();
    x.office(0);
    return x;
  }

  private static void faultyIn(Supplier<StampViews> made, int fault, int place, String text) {
    StampViews x = made.get();
    Due.is("papers of '" + text + "'", Due.tell(x, text), -1);
    Due.is("trouble of '" + text + "'", x.trouble(), 4);
    Due.is("fault of '" + text + "'", x.fault(), fault);
    Due.is("place in '" + text + "'", x.where(), place);
    Due.is("the tape is empty behind '" + text + "'", x.size(11), 0);
    Due.same("all else behind '" + text + "'", Due.all(x), Due.all(made.get()));
  }

  private static StampViews faultless(String text, int papers) {
    StampViews x = new StampViews();
    Due.fine("papers of '" + text + "'", x, Due.tell(x, text), papers);
    Due.is("fault of '" + text + "'", x.fault(), 0);
    Due.is("the tape is empty behind '" + text + "'", x.size(11), 0);
    return x;
  }

  private static StampViews filled(int feeds) {
    StampViews x = new StampViews();
    for (int i = 0; i < feeds; i++) x.feed(0x20202020, 0x20202020, 0x20202020, 0x20202020, 0x20202020);
    return x;
  }

  // ---- promise 2

  private static void tapeOf900() {
    Due.part("promise 2, 900 bytes");
    StampViews x = new StampViews();
    for (int i = 1; i <= 45; i++) Due.is("feed " + i, x.feed(0x20202020, 0x20202020, 0x20202020, 0x20202020, 0x20202020), 20 * i);
    for (int i = 0; i < 3; i++) {
      Due.is("feed beyond 900", x.feed(0x6f6f6f6f, 0, 0, 0, -1), -1);
      Due.is("bytes stay", x.size(11), 900);
      Due.is("trouble stays", x.trouble(), 0);
    }
    Due.is("900 blanks", x.office(900), -1);
    Due.is("none of those bytes came", x.fault() * 1000 + x.where(), 1900);
    Due.is("there is room again", x.feed(0, 0, 0, 0, 0), 20);
    String last = Due.padded(HEAD + "paper p worth", 899) + "7";
    Due.is("the 900th byte counts", faultless(last, 1).paper(0, 0), 7);
    StampViews full = new StampViews();
    Due.feed(full, last);
    Due.is("one more refused", full.feed(0x39393939, 0x39393939, 0x39393939, 0x39393939, 0x39393939), -1);
    Due.is("all 900 as they were", full.office(900), 1);
    Due.is("worth", full.paper(0, 0), 7);
    Due.is("880 have room for twenty more", filled(44).feed(0, 0, 0, 0, 0), 900);
    StampViews t = Due.town();
    for (int i = 0; i < 44; i++) t.feed(0x20202020, 0x20202020, 0x20202020, 0x20202020, 0x20202020);
    t.says(99, 0);
    Due.is("refused feed", t.feed(1, 2, 3, 4, 5), -1);
    Due.is("it leaves trouble", t.trouble(), 1);
    Due.is("it leaves the office", t.size(2), 3);
  }

  private static void numbersOfBytes() {
    Due.part("promise 3, numbers of bytes");
    for (int feeds : new int[] {0, 1, 44, 45}) {
      int bytes = 20 * feeds;
      for (int n : new int[] {Integer.MIN_VALUE, -1, bytes + 1, 901, Integer.MAX_VALUE}) {
        Due.refused("office(" + n + ") of " + bytes, () -> filled(feeds), x -> x.office(n), 2);
      }
      for (int n : new int[] {0, bytes}) {
        StampViews x = filled(feeds);
        Due.is("office(" + n + ") of " + bytes, x.office(n), -1);
        Due.is("it is read, and faulty", x.trouble(), 4);
        Due.is("at its end", x.where(), n);
        Due.is("and the tape is empty", x.size(11), 0);
      }
    }
    String whole = Due.padded(HEAD + "paper p worth", 899) + "7";
    StampViews x = new StampViews();
    Due.feed(x, whole);
    Due.is("899 of 900", x.office(899), -1);
    Due.is("lack the last", x.fault() * 1000 + x.where(), 1899);
  }

  private static void bytesComeHighestFirst() {
    Due.part("promise 2, the highest first");
    StampViews x = new StampViews();
    x.feed('o' << 24 | 'f' << 16 | 'f' << 8 | 'i', 'c' << 24 | 'e' << 16 | ' ' << 8 | 'b', 'i' << 24 | 'r' << 16 | 'd' << 8 | 's',
        '9' << 24 | ';' << 16 | 'p' << 8 | 'a', 'p' << 24 | 'e' << 16 | 'r' << 8 | ' ');
    x.feed('q' << 24 | ' ' << 16 | 'w' << 8 | 'o', 'r' << 24 | 't' << 16 | 'h' << 8 | '8', ';' << 24 | 'm' << 16 | 'a' << 8 | 'r',
        'k' << 24 | ' ' << 16 | 'a' << 8 | 'b', -1);
    Due.is("36 bytes of 40", x.office(36), 1);
    Due.is("birds, worth, marks", x.size(0) * 100 + x.paper(0, 0) * 10 + x.size(1), 981);
    StampViews y = new StampViews();
    y.feed(0x80000000, 0, 0, 0, 0);
    y.office(4);
    Due.is("a byte of 128 is no blank and no end", y.fault() * 1000 + y.where(), 1000);
  }

  // ---- promise 3

  private static void firstBytesAlone() {
    Due.part("promise 3, the first n bytes");
    StampViews x = new StampViews();
    Due.feed(x, HEAD + "paper p worth 56;paper q worth 7");
    Due.is("up to 5", x.office(30), 1);
    Due.is("5", x.paper(0, 0), 5);
    Due.is("the tape is empty then", x.size(11), 0);
    Due.is("nothing of it is left for the next", x.office(1), -1);
    Due.is("by 2", x.trouble(), 2);
    StampViews y = new StampViews();
    Due.feed(y, HEAD + "paper p worth 56;paper q worth 7");
    Due.is("up to 56", y.office(31), 1);
    Due.is("56", y.paper(0, 0), 56);
  }

  private static void refusedByTwo() {
    Due.part("promise 3, refused by 2");
    for (int n : new int[] {Integer.MIN_VALUE, -1, 21, 900, Integer.MAX_VALUE}) {
      Due.refused("office(" + n + ") of 20", Due::fresh, x -> x.office(n), 2);
      Due.refused("office(" + n + ") of 20", Due::town, x -> x.office(n), 2);
    }
  }

  private static void refusedByFour() {
    Due.part("promise 3, refused by 4");
    faulty(1, "^");
    faulty(6, "^paper p worth 5");
    faulty(5, FIVE_MARKS + "^mark f;paper p worth 5");
    StampViews x = Due.at(Due.TOWN);
    x.press(0, 0, 0);
    Due.tell(x, "office birds 9;paper z worth 1,widow");
    Due.is("names of the office that stays aren't told in the next", x.fault() * 100 + x.where(), 231);
    Due.is("birds of it", x.size(0), 50);
    Due.is("worth of it", x.paper(0, 0), 40);
    Due.is("what was pressed", x.paper(0, 3), 1);
    Due.done("what can be undone", x, x.undo());
  }

  private static void newOfficeForgets() {
    Due.part("promise 3, from now on");
    StampViews x = Due.at(Due.FULL);
    x.press(0, 0, 0);
    x.mark(0, 0, false);
    x.image();
    Due.fine("a smaller one", x, Due.tell(x, Due.BARE), 1);
    Due.same("nothing of the one ahead", Due.all(x), Due.all(Due.at(Due.BARE)));
    StampViews y = Due.at(Due.BARE);
    Due.fine("a larger one", y, Due.tell(y, Due.FULL), 5);
    Due.is("nothing pressed", y.size(8), 0);
    Due.same("nothing of the one ahead", Due.all(y), Due.all(Due.at(Due.FULL)));
    StampViews z = Due.at(Due.FULL);
    for (int i = 0; i < 9; i++) z.press(0, 0, i % 5);
    for (int i = 0; i < 3; i++) z.image();
    Due.fine("the same once more", z, Due.tell(z, Due.FULL), 5);
    Due.is("nothing to undo", Due.asLong(z.undo()), 0);
    Due.is("by 6", z.trouble(), 6);
    Due.is("no image", Due.asLong(z.back(0)), 0);
    Due.is("by 1", z.trouble(), 1);
    Due.is("the first image again", z.image(), 0);
    Due.is("ink as told", z.stamp(0, 0), 9);
  }

  /** Whatever was read into an object ahead, with a fault or without, the next text alone counts. */
  private static void nothingIsLeftOfTexts() {
    Due.part("promise 3, text behind text");
    String nots = Due.FULL.replace("rule x c", "rule x not c").replace("rule u a", "rule u not a");
    String[] texts = {Due.FULL, Due.BARE, nots, Due.TOWN, Due.FULL + ";!", nots + ";office", "office birds 9", "office birds 9;paper p worth 9;mark"};
    for (String first : texts) {
      for (String second : texts) {
        for (String third : new String[] {Due.FULL, Due.BARE, Due.TOWN}) {
          StampViews x = new StampViews();
          Due.tell(x, first);
          Due.tell(x, second);
          Due.tell(x, third);
          Due.same("as told alone", Due.all(x), Due.all(Due.at(third)));
        }
        StampViews x = Due.at(Due.TOWN);
        Due.tell(x, first);
        Due.tell(x, second);
        Due.is("no paper", Due.tell(x, "office birds 5"), -1);
        Due.is("lacks one", x.fault() * 100 + x.where(), 614);
      }
    }
  }

  // ---- promises 4 and 5

  private static void faultIsOfTheLatest() {
    Due.part("promise 4");
    StampViews x = new StampViews();
    Due.is("without one", x.fault(), 0);
    x.office(1);
    Due.is("refused by 2 alone", x.fault(), 0);
    x.office(0);
    Due.is("form", x.fault(), 1);
    x.office(-1);
    Due.is("stays behind one refused by 2", x.fault(), 1);
    x.kept();
    Due.is("stays behind other calls", x.fault(), 1);
    Due.tell(x, HEAD + "want p");
    Due.is("2", x.fault(), 2);
    Due.tell(x, HEAD + "office");
    Due.is("3", x.fault(), 3);
    Due.tell(x, "office birds 101");
    Due.is("4", x.fault(), 4);
    Due.tell(x, FIVE_MARKS + "mark f");
    Due.is("5", x.fault(), 5);
    Due.tell(x, "mark a");
    Due.is("6", x.fault(), 6);
    Due.tell(x, Due.BARE);
    Due.is("0 without one", x.fault(), 0);
    x.office(99);
    Due.is("0 stays, too", x.fault(), 0);
  }

  private static void whereIsOfTheLatest() {
    Due.part("promise 5");
    StampViews x = new StampViews();
    Due.is("nothing was refused", x.where(), -1);
    x.office(0);
    Due.is("place 0", x.where(), 0);
    x.office(1);
    Due.is("refused by 2", x.where(), -1);
    Due.is("the fault is told all the same", x.fault(), 1);
    Due.tell(x, "office birds 101");
    Due.is("place 13", x.where(), 13);
    x.feed(0, 0, 0, 0, 0);
    x.fault();
    x.size(0);
    x.size(-1);
    Due.led(x, 0);
    x.trouble();
    Due.is("stays behind calls of which no number is told", x.where(), 13);
    x.kept();
    Due.is("behind a call refused by 1", x.where(), -1);
    StampViews y = Due.at(Due.TOWN);
    Due.tell(y, "office birds 101");
    Due.is("place 13 in an office", y.where(), 13);
    y.kept();
    Due.is("behind a call that wasn't refused", y.where(), -1);
    Due.tell(y, "office birds 101");
    y.undo();
    Due.is("behind an act refused by 6", y.where(), -1);
    Due.tell(y, "office birds 101");
    Due.tell(y, Due.BARE);
    Due.is("behind an office without a fault", y.where(), -1);
  }

  // ---- terms I

  private static void endsOfText() {
    Due.part("terms I, the end: its place");
    faulty(1, "^");
    faulty(1, " ^");
    faulty(1, Due.padded("", 900) + "^");
    faulty(1, "office^");
    faulty(1, "office ^");
    faulty(1, "office birds^");
    faulty(6, "office birds 5^");
    faulty(6, "office birds 5  ^");
    faulty(6, Due.padded("office birds 5", 900) + "^");
    faulty(6, Due.padded("office birds 5;mark", 899) + "z^");
    faulty(1, "office birds 5;^");
    faulty(1, "office birds 5; ^");
    faulty(1, HEAD + "paper^");
    faulty(1, HEAD + "paper p^");
    faulty(1, HEAD + "paper p worth^");
    faultless(HEAD + "paper p worth 5", 1);
    faultless(HEAD + "paper p worth 5 ", 1);
    faulty(1, HEAD + "paper p worth 5;^");
    faulty(1, HEAD + "paper p worth 5,^");
    for (String line : new String[] {"mark", "stamp", "stamp s", "stamp s ink", "stamp s ink 1", "stamp s ink 1 else", "stamp s ink 1 else no,",
        "hand", "hand h", "hand h kind", "hand h kind moody", "rule", "want", "print"}) {
      faulty(1, Due.BARE + ";" + line + "^");
    }
    String told = Due.BARE + ";mark m;stamp s ink 1 else no;hand h kind moody 0;";
    for (String line : new String[] {"rule s", "rule s m", "rule s not", "rule s not m", "want p", "print p", "print p h"}) {
      faulty(1, told + line + "^");
    }
    // The word ahead of the end isn't read twice, though it is one that must stand there.
    faulty(1, HEAD + "paper worth^");
    faulty(1, Due.BARE + ";stamp ink^");
    for (String kind : KINDS) faulty(1, Due.BARE + ";hand " + kind + " ^");
    for (String verdict : VERDICTS) {
      faulty(1, HEAD + "paper " + verdict + " worth 5;want " + verdict + "^");
      faulty(1, told + "mark " + verdict + ";rule s " + verdict + " ^");
      faulty(1, told + "mark " + verdict + ";rule s not " + verdict + "^");
      faulty(1, told + "hand " + verdict + " kind moody 0;print p " + verdict + "  ^");
      faulty(1, told + "hand " + verdict + " kind moody 0;print p " + verdict + "^;");
      faulty(1, told + "hand " + verdict + " kind moody 0;print p " + verdict + " ^5");
    }
  }

  private static void everyByte() {
    Due.part("terms I, every byte");
    for (int b = 0; b < 256; b++) {
      char c = (char) b;
      boolean letter = c >= 'a' && c <= 'z', digit = c >= '0' && c <= '9', blank = c == ' ', comma = c == ',', semicolon = c == ';';
      if (blank) faultless(c + Due.BARE, 1);
      else faultyAt(1, 0, c + Due.BARE);
      if (blank || digit) faultless(Due.BARE + c, 1);
      else if (comma || semicolon) faultyAt(1, 31, Due.BARE + c);
      else faultyAt(1, 30, Due.BARE + c);
      String named = HEAD + "mark m" + c + ";paper p worth 5";
      if (blank || letter) faultless(named, 1);
      else faultyAt(1, semicolon ? 22 : 21, named);
      String parted = "office" + c + "birds 5;paper p worth 5";
      if (blank) faultless(parted, 1);
      else faultyAt(1, letter ? 0 : 6, parted);
    }
  }

  private static void lengthsOfWords() {
    Due.part("terms I, words of 1 to 8 letters");
    String letters = "abcdefghijkl";
    for (int n = 1; n <= 12; n++) {
      String name = letters.substring(0, n);
      String before = Due.BARE + ";mark m;";
      if (n <= 8) {
        faultless(before + "mark " + name, 1);
        faultless(HEAD + "paper " + name + " worth 1;want " + name + " no", 1);
        faultless(before + "stamp " + name + " ink 1 else no;rule " + name + " m no", 1);
        faultless(before + "hand " + name + " kind moody 1;print p " + name + " no", 1);
      } else {
        faulty(1, before + "mark ^" + name);
        faulty(1, HEAD + "paper ^" + name + " worth 1");
        faulty(1, before + "stamp ^" + name + " ink 1 else no");
        faulty(1, before + "hand ^" + name + " kind moody 1");
        faulty(1, before + "want ^" + name);
        faulty(1, before + "stamp s ink 1 else no,^" + name);
      }
    }
    faultless(HEAD + "mark abcdefgh;mark abcdefgi;mark bbcdefgh;mark abcdefg;paper p worth 5,abcdefg,abcdefgi,abcdefgh,bbcdefgh", 1);
    faultless(HEAD + "mark a;mark aa;mark aaa;mark aaaaaaaa;mark z;paper zzzzzzzz worth 1", 1);
    faulty(1, HEAD + "mark ^zzzzzzzzz");
    faulty(1, "^officebirds 5");
    faulty(1, "^officeb irds 5");
    faulty(1, "office ^bird 5");
    faulty(1, "office ^birdss 5");
    faulty(1, "office birds 5;^papers p worth 5");
    faulty(1, HEAD + "paper p worth 5;hand h ^straigh moody 1");
    faulty(1, HEAD + "paper p worth 5;hand h ^straightt moody 1");
  }

  private static void lengthsOfWholes() {
    Due.part("terms I, wholes of 1 to 3 digits");
    String[] before = {"office birds ", HEAD + "paper p worth ", Due.BARE + ";stamp s ink ", Due.BARE + ";hand h kind moody "};
    String[] behind = {";paper p worth 5", "", " else no", ""};
    for (int i = 0; i < 4; i++) {
      for (String whole : new String[] {"0", "00", "000", "7", "07", "007"}) faultless(before[i] + whole + behind[i], 1);
      for (String whole : new String[] {"0000", "0007", "1000", "9999", "00000", "99999999999"}) faulty(1, before[i] + "^" + whole + behind[i]);
      faulty(1, before[i] + "0 ^0" + behind[i]);
      faulty(1, before[i] + "^x" + behind[i]);
      faulty(1, before[i] + "^-1" + behind[i]);
      faulty(1, before[i] + "^+1" + behind[i]);
    }
    Due.is("007 birds", faultless("office birds 007;paper p worth 5", 1).size(0), 7);
    faultless("office birds5;paper p worth5;stamp s ink1else no;hand h kind moody5", 1);
  }

  private static void boundsOfWholes() {
    Due.part("terms I, bounds of wholes");
    for (int n = 0; n <= 999; n++) {
      wholeWithin(n, 100, "office birds ", ";paper p worth 5");
      wholeWithin(n, 99, HEAD + "paper p worth ", "");
      wholeWithin(n, 9, Due.BARE + ";stamp s ink ", " else no");
      wholeWithin(n, 100, Due.BARE + ";hand h kind moody ", "");
    }
    Due.is("birds 0", faultless("office birds 0;paper p worth 0", 1).size(0), 0);
    Due.is("birds 100", faultless("office birds 100;paper p worth 0", 1).size(0), 100);
    Due.is("worth 99", faultless(HEAD + "paper p worth 99", 1).paper(0, 0), 99);
    Due.is("ink 9", faultless(Due.BARE + ";stamp s ink 9 else no", 1).stamp(0, 0), 9);
    Due.is("moody 100", faultless(Due.BARE + ";hand h kind moody 100", 1).hand(0, 1), 100);
  }

  private static void wholeWithin(int n, int most, String before, String behind) {
    String text = before + n + behind;
    StampViews x = new StampViews();
    int got = Due.tell(x, text);
    Due.is("papers of '" + text + "'", got, n <= most ? 1 : -1);
    Due.is("trouble of '" + text + "'", x.trouble(), n <= most ? 0 : 4);
    Due.is("fault of '" + text + "'", x.fault(), n <= most ? 0 : 4);
    Due.is("place in '" + text + "'", x.where(), n <= most ? -1 : before.length());
  }

  private static void boundsOfCounts() {
    Due.part("terms I, up to so many");
    String told = HEAD + "mark m;paper p worth 5;stamp s ink 1 else no;hand h kind moody 1";
    boundOf("mark", told, ";mark #", 5 - 1, 1, 1, 1);
    boundOf("paper", told, ";paper # worth 1", 5 - 1, 2, 1, 5);
    boundOf("stamp", told, ";stamp # ink 1 else no", 4 - 1, 3, 1, 1);
    boundOf("rule", told, ";rule s m yes", 10, 4, 0, 1);
    boundOf("hand", told, ";hand # kind moody 1", 3 - 1, 5, 1, 1);
    boundOf("print", told, ";print p h yes", 4, 7, 0, 1);
    faulty(5, FIVE_MARKS + "^mark a;paper p worth 5");
    faulty(5, FIVE_MARKS + "^mark;paper p worth 5");
    faulty(5, FIVE_MARKS + "paper p worth 5;^mark office");
    faulty(5, FIVE_MARKS + " ^mark f");
    StampViews x = faultless(Due.FULL, 5);
    int[] full = {100, 5, 5, 4, 10, 3, 5, 4};
    for (int what = 0; what < 8; what++) Due.is("size " + what, x.size(what), full[what]);
    faulty(5, Due.FULL + ";^mark");
    faulty(5, Due.FULL + ";^paper");
    faulty(5, Due.FULL + ";^stamp");
    faulty(5, Due.FULL + ";^rule");
    faulty(5, Due.FULL + ";^hand");
    faulty(5, Due.FULL + ";^print");
    faulty(1, Due.FULL + ";want^");
  }

  /** One line less than there is room for, as many, and one more. */
  private static void boundOf(String sort, String told, String line, int room, int size, int ahead, int papers) {
    StringBuilder text = new StringBuilder(told);
    for (int i = 1; i <= room; i++) {
      text.append(line.replace('#', (char) ('t' + i)));
      int all = sort.equals("paper") ? 1 + i : papers;
      Due.is(sort + " " + (i + ahead), faultless(text.toString(), all).size(size), i + ahead);
    }
    String more = line.substring(1).replace('#', 'g');
    faulty(5, text + ";^" + more);
    faulty(5, text + ";want p no;^" + more + ";" + more);
  }

  private static void namesAreWordsBut() {
    Due.part("terms I, names are words but");
    String told = HEAD + "mark m;paper p worth 5;stamp s ink 1 else no;hand h kind moody 1;";
    String[] places = {"mark ^#", "paper ^# worth 1", "paper q worth 1,^#", "stamp ^# ink 1 else no", "stamp t ink 1 else no,^#",
        "rule ^# m no", "rule s not ^# no", "hand ^# kind moody 1", "want ^# no", "print ^# h no", "print p ^# no"};
    for (String word : NOT_NAMES) {
      for (String place : places) faulty(1, told + place.replace("#", word));
    }
    for (String word : NOT_NAMES) {
      if (!word.equals("not")) faulty(1, told + "rule s ^" + word + " no");
    }
    for (String word : OTHER_WORDS) {
      faultless(HEAD + "paper p worth 5;mark " + word + ";paper q worth 1," + word + ";stamp s ink 1 else no," + word + ";rule s " + word
          + " no;rule s not " + word + " no", 2);
      faultless(HEAD + "paper " + word + " worth 5;want " + word + " no", 1);
      faultless(Due.BARE + ";mark m;stamp " + word + " ink 1 else no;rule " + word + " m no", 1);
      faultless(Due.BARE + ";hand " + word + " kind moody 1;print p " + word + " no", 1);
    }
  }

  private static void verdictsAndKinds() {
    Due.part("terms I, verdicts and kinds");
    String told = HEAD + "mark m;paper p worth 5;stamp s ink 1 else no;hand h kind moody 1;";
    for (int v = 0; v < 3; v++) {
      Due.is("else", faultless(told + "stamp t ink 1 else " + VERDICTS[v], 1).stamp(1, 1), v);
      Due.is("rule", faultless(told + "rule s m " + VERDICTS[v], 1).rule(0, 3), v);
      Due.is("want", faultless(told + "want p " + VERDICTS[v], 1).paper(0, 2), v);
      Due.is("print", faultless(told + "print p h " + VERDICTS[v], 1).size(7), 1);
    }
    for (int k = 0; k < 4; k++) Due.is("kind", faultless(told + "hand g " + KINDS[k] + " moody 1", 1).hand(1, 0), k);
    for (String word : new String[] {"maybe", "ye", "yess", "n", "fain", "not", "s", "1", ",", ";", "straight"}) {
      faulty(1, told + "stamp t ink 1 else ^" + word);
      faulty(1, told + "rule s m ^" + word);
      faulty(1, told + "want p ^" + word);
      faulty(1, told + "print p h ^" + word);
    }
    for (String word : new String[] {"odd", "kin", "kinder", "moody", "yes", "h", "1", ",", ";"}) faulty(1, told + "hand g ^" + word + " moody 1");
  }

  private static void formsOfLines() {
    Due.part("terms I, form");
    faulty(1, "^;" + Due.BARE);
    faulty(1, "office birds 5;^;paper p worth 5");
    faulty(1, "office birds 5 ^paper p worth 5");
    faulty(1, "office birds 5^,paper p worth 5");
    faulty(1, "^birds 5");
    faulty(1, "^not");
    faulty(1, "^5");
    faulty(1, HEAD + "^not a");
    faulty(1, HEAD + "^p");
    faulty(1, HEAD + "mark a^,b");
    faulty(1, HEAD + "mark a ^b");
    faulty(1, HEAD + "mark a;paper p ^5");
    faulty(1, HEAD + "mark a;paper p ^ink 5");
    faulty(1, HEAD + "mark a;paper p worth 5 ^a");
    faulty(1, HEAD + "mark a;paper p worth 5,a ^a");
    faulty(1, HEAD + "mark a;paper p worth 5^:a");
    faulty(1, HEAD + "mark a;paper p worth 5,^;");
    faulty(1, HEAD + "mark a;paper p worth 5,^5");
    faulty(1, Due.BARE + ";stamp s ^else no");
    faulty(1, Due.BARE + ";stamp s ink 1 ^no");
    faulty(1, Due.BARE + ";stamp s ink 1^,");
    faulty(1, Due.BARE + ";hand h ^moody 1");
    faulty(1, Due.BARE + ";hand h kind ^1");
    faulty(1, Due.BARE + ";hand h kind moody 1 ^kind");
    faulty(1, Due.BARE + ";mark m;stamp s ink 1 else no;rule s not ^not m no");
    faulty(1, Due.BARE + ";mark m;stamp s ink 1 else no;rule s m ^not");
    faulty(1, Due.BARE + ";mark m;stamp s ink 1 else no;rule s m^,m");
    faulty(1, Due.BARE + ";want p no ^p");
    faulty(1, Due.BARE + ";want p no^,p");
    faulty(1, Due.BARE + ";want ^1");
    faultless("   office   birds   5   ;   mark   m   ;   paper   p   worth   5   ,   m   ", 1);
    faultless("office birds5;mark m;paper p worth5,m;stamp s ink1else no,m;hand h kind moody5;want p no", 1);
  }

  private static void namesNotTold() {
    Due.part("terms I, fault 2");
    String told = HEAD + "mark m;paper p worth 5;stamp s ink 1 else no;hand h kind moody 1;";
    String[] names = {"m", "p", "s", "h", "z"};
    for (String name : names) {
      if (!name.equals("m")) {
        faulty(2, told + "paper q worth 5,^" + name);
        faulty(2, told + "paper q worth 5,m,^" + name);
        faulty(2, told + "stamp t ink 1 else no,^" + name);
        faulty(2, told + "rule s ^" + name);
        faulty(2, told + "rule s not ^" + name);
      }
      if (!name.equals("p")) {
        faulty(2, told + "want ^" + name);
        faulty(2, told + "print ^" + name);
      }
      if (!name.equals("s")) faulty(2, told + "rule ^" + name);
      if (!name.equals("h")) faulty(2, told + "print p ^" + name);
    }
    faulty(2, HEAD + "paper p worth 5,^m;mark m");
    faulty(2, HEAD + "paper p worth 5,^p");
    faulty(2, Due.BARE + ";want ^q no;paper q worth 5");
    faulty(2, Due.BARE + ";rule ^s m no;mark m;stamp s ink 1 else no");
    faulty(2, Due.BARE + ";print p ^h no;hand h kind moody 1");
    faulty(2, Due.BARE + ";stamp s ink 1 else no,^s");
    faulty(2, Due.BARE + ";stamp s ink 1 else no;rule s ^yes no");
    faulty(2, Due.BARE + ";stamp s ink 1 else no;rule s ^no");
    faultless(HEAD + "hand h kind moody 1;stamp s ink 1 else no;mark m;rule s m no;paper p worth 5,m;print p h no;want p no", 1);
  }

  private static void namesToldAgain() {
    Due.part("terms I, fault 3, names");
    String[] lines = {"mark #", "paper # worth 5", "stamp # ink 1 else no", "hand # kind moody 1"};
    for (String first : lines) {
      for (String second : lines) {
        faulty(3, HEAD + first.replace("#", "a") + ";" + second.replace("#", "^a"));
        faultless(HEAD + first.replace("#", "a") + ";" + second.replace("#", "b") + ";paper p worth 5",
            1 + (first.startsWith("paper") ? 1 : 0) + (second.startsWith("paper") ? 1 : 0));
      }
    }
    faulty(3, Due.FULL.substring(0, Due.FULL.indexOf(";hand h")) + ";hand ^a cross moody 50");
  }

  private static void marksAndWantsAgain() {
    Due.part("terms I, fault 3, marks and wants");
    String marks = FIVE_MARKS + "paper p worth 5;";
    faultless(marks + "paper q worth 5,a,b,c,d,e", 2);
    faulty(3, marks + "paper q worth 5,a,^a");
    for (String again : new String[] {"a", "b", "c", "d", "e"}) {
      faulty(3, marks + "paper q worth 5,a,b,c,d,e,^" + again);
      faulty(3, marks + "stamp s ink 5 else no,a,b,c,d,e,^" + again);
    }
    faultless(marks + "stamp s ink 5 else no,e,d,c,b,a;stamp t ink 1 else no,a;paper q worth 1,a", 2);
    faulty(2, marks + "paper q worth 5,a,b,c,d,e,^q");
    String wants = Due.FULL.substring(0, Due.FULL.indexOf(";print"));
    for (String paper : new String[] {"p", "q", "r", "s", "t"}) faulty(3, wants + ";want ^" + paper + " no");
    faulty(3, HEAD + "paper p worth 5;want p no;want ^p no");
    faulty(3, HEAD + "paper p worth 5;paper q worth 5;want p no;want q no;want ^p yes");
    Due.is("five wants", faultless(wants, 5).size(6), 5);
    faultless(Due.BARE + ";mark m;stamp s ink 1 else no;rule s m no;rule s m no;hand h kind moody 1;print p h no;print p h no", 1);
  }

  private static void officeAheadOfAll() {
    Due.part("terms I, the office ahead of all others");
    for (String word : NOT_NAMES) {
      if (word.equals("office") || word.equals("not")) continue;
      faulty(6, "^" + word);
      faulty(6, "  ^" + word + ";office birds 5;paper p worth 5");
    }
    faulty(6, "^mark a;" + Due.BARE);
    faulty(3, Due.BARE + ";^office birds 5");
    faulty(3, "office birds 5;^office");
    faulty(3, Due.FULL + ";^office birds 5");
    faulty(1, "office birds 5;mark ^office");
  }

  private static void paperLacks() {
    Due.part("terms I, no paper");
    faulty(6, "office birds 5^");
    faulty(6, HEAD + "mark m;stamp s ink 1 else no;rule s m no;hand h kind moody 1^");
    faulty(6, HEAD + "mark m;stamp s ink 1 else no,m   ^");
    faultless(HEAD + "mark m;paper p worth 0", 1);
  }

  private static void leastNumberOfOnePlace() {
    Due.part("terms I, of one place the least number");
    faulty(1, "office birds 5;^");
    faulty(1, "office ^101");
    faulty(1, HEAD + "paper p worth 5;want ^want");
    faulty(1, HEAD + "mark ^office");
    faulty(1, Due.BARE + ";stamp s ink ^1000");
    faulty(2, HEAD + "paper p worth 5;want p no;want ^q");
    faulty(2, HEAD + "mark m;paper p worth 5,m,^p");
    faulty(3, "office birds 5;^office birds 101");
  }

  private static void firstFromTheLeft() {
    Due.part("terms I, the first from the left");
    faulty(4, "office birds ^101;mark !");
    faulty(1, "office birds 5^!;paper p worth 100");
    faulty(3, HEAD + "mark a;mark ^a;mark 5");
    faulty(2, HEAD + "paper p worth 5,^m,m,m");
    faulty(5, FIVE_MARKS + "^mark a");
    faulty(4, HEAD + "paper p worth ^100,m");
    faulty(3, HEAD + "mark p;paper ^p worth 100");
    faulty(6, "^mark mark");
    faulty(4, HEAD + "hand h kind moody ^101;mark h");
    faulty(2, Due.BARE + ";rule ^s m maybe");
  }

  /** Against the model's reading: each prefix of a full text, and each byte of it left out or put for another. */
  private static void everyPrefixAndChange() {
    Due.part("terms I, changed texts");
    String text = Due.FULL;
    for (int n = 0; n <= text.length(); n++) asByModel(text.substring(0, n));
    for (int i = 0; i < text.length(); i++) {
      asByModel(text.substring(0, i) + text.substring(i + 1));
      for (char c : new char[] {' ', ';', ',', 'a', 'z', '0', '9', '\n', 'A', (char) 0, (char) 160, (char) 225}) {
        asByModel(text.substring(0, i) + c + text.substring(i + 1));
        asByModel(text.substring(0, i) + c + text.substring(i));
      }
    }
  }

  private static void asByModel(String text) {
    StampViews x = new StampViews();
    int got = Due.tell(x, text);
    try {
      int papers = new OfficeModel.Reading(text).read().worths.size();
      Due.is("papers of '" + text + "'", got, papers);
      Due.is("fault of '" + text + "'", x.fault(), 0);
    } catch (OfficeModel.Fault f) {
      Due.is("papers of '" + text + "'", got, -1);
      Due.is("fault of '" + text + "'", x.fault(), f.number);
      Due.is("place in '" + text + "'", x.where(), f.place);
    }
  }
}
