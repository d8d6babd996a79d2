import java.util.NoSuchElementException;

/** The rubber stamp has views: an office told as a text, and what can be asked of it and done in it. */
public final class StampViews {
    public static final int NONE = -1;

    /** The answer "nobody", "by none", "not yet", where NONE is kept for refusals. */
    private static final int ABSENT = -2;

    private static final int NO = 0;
    private static final int YES = 1;
    private static final int FAINT = 2;
    private static final int VERDICTS = 3;

    private static final int MARKS = 5;
    private static final int PAPERS = 5;
    private static final int STAMPS = 4;
    private static final int RULES = 10;
    private static final int HANDS = 3;
    private static final int PRINTS = 4;
    private static final int MOST_WORTH = 99;
    private static final int MOST_INK = 9;
    private static final int MOST_IN_HUNDRED = 100;
    private static final int MOST_MONTHS = 20;
    private static final int MOST_PRESSES = 90;
    private static final int LAST_SEED = 65536;

    private static final int FINE = 0;
    private static final int NO_SUCH = 1;
    private static final int BAD_NUMBER = 2;
    private static final int NO_ROOM = 3;
    private static final int FAULTY = 4;
    private static final int NOT_SO = 5;
    private static final int THERE_IS_NONE = 6;

    private final Tape tape;
    private final Reader reader;
    private final Office desk;
    private final Past past;
    private final Keeper keeper;
    private final Stranger stranger;
    private final Bench bench;
    private final Game game;
    private final Draws draws;
    private boolean open;
    private int lastTrouble;
    private int lastFault;
    private int lastPlace;

    public StampViews() {
        tape = new Tape();
        reader = new Reader(tape);
        desk = new Office();
        past = new Past();
        keeper = new Keeper(desk);
        stranger = new Stranger(desk);
        bench = new Bench(desk);
        game = new Game(desk);
        draws = new Draws(desk);
        open = false;
        lastTrouble = FINE;
        lastFault = 0;
        lastPlace = NONE;
    }

    // ---- the office

    public int feed(int a, int b, int c, int d, int e) {
        if (!tape.hasRoom()) {
            return NONE;
        }
        tape.put(a);
        tape.put(b);
        tape.put(c);
        tape.put(d);
        tape.put(e);
        return tape.filled;
    }

    public int office(int n) {
        if (n < 0 || n > tape.filled) {
            return refuse(BAD_NUMBER);
        }
        boolean faultless = reader.readText(n);
        tape.filled = 0;
        lastFault = reader.fault;
        lastPlace = reader.place;
        if (!faultless) {
            return refuse(FAULTY);
        }
        openOffice();
        return answer(desk.plan.papers);
    }

    public int fault() {
        return lastFault;
    }

    public int where() {
        return lastTrouble == FAULTY ? lastPlace : NONE;
    }

    // ---- now

    public int paper(int p, int what) {
        if (!desk.hasPaper(p) || what < 0 || what > 3) {
            return refuse(NO_SUCH);
        }
        switch (what) {
            case 0:
                return answer(desk.plan.worth[p]);
            case 1:
                return answer(desk.now.marksOf(p));
            case 2:
                return answer(desk.plan.want[p]);
            default:
                return answer(desk.now.latestOn(p));
        }
    }

    public int stamp(int s, int what) {
        if (!desk.hasStamp(s) || what < 0 || what > 4) {
            return refuse(NO_SUCH);
        }
        switch (what) {
            case 0:
                return answer(desk.now.inkOf(s));
            case 1:
                return answer(desk.plan.otherwise[s]);
            case 2:
                return answer(desk.plan.ownMarks[s]);
            case 3:
                return answer(desk.plan.rulesOf(s));
            default:
                return answer(desk.now.pressesOfStamp(s));
        }
    }

    public int hand(int h, int what) {
        if (!desk.hasHand(h) || what < 0 || what > 2) {
            return refuse(NO_SUCH);
        }
        switch (what) {
            case 0:
                return answer(desk.plan.kind[h]);
            case 1:
                return answer(desk.plan.moody[h]);
            default:
                return answer(desk.now.pressesOfHand(h));
        }
    }

    public int rule(int k, int what) {
        if (!desk.hasRule(k) || what < 0 || what > 3) {
            return refuse(NO_SUCH);
        }
        switch (what) {
            case 0:
                return answer(desk.plan.ruleStamp[k]);
            case 1:
                return answer(desk.plan.ruleMark[k]);
            case 2:
                return answer(desk.plan.ruleNot[k]);
            default:
                return answer(desk.now.verdictOf(k));
        }
    }

    public int says(int s, int p) {
        if (!desk.hasStamp(s) || !desk.hasPaper(p)) {
            return refuse(NO_SUCH);
        }
        return answer(desk.sayOn(s, p));
    }

    public int byRule(int s, int p) {
        if (!desk.hasStamp(s) || !desk.hasPaper(p)) {
            return refuse(NO_SUCH);
        }
        return answer(desk.firstRule(s, desk.now.marksOf(p)));
    }

    public int saysOf(int s, int marks) {
        if (!desk.hasStamp(s) || marks < 0 || marks >= desk.plan.markSets()) {
            return refuse(NO_SUCH);
        }
        return answer(desk.sayOf(s, marks));
    }

    public int prints(int s, int h, int p) {
        if (!desk.hasAll(s, h, p)) {
            return refuse(NO_SUCH);
        }
        return answer(desk.printBy(h, desk.sayOn(s, p)));
    }

    public int sayers(int p, int verdict) {
        if (!desk.hasPaper(p)) {
            return refuse(NO_SUCH);
        }
        if (!isVerdict(verdict)) {
            return refuse(BAD_NUMBER);
        }
        return answer(desk.stampsThatSay(desk.now.marksOf(p), verdict));
    }

    public int idleRules(int s) {
        if (!desk.hasStamp(s)) {
            return refuse(NO_SUCH);
        }
        return answer(desk.rulesNeverFirst(s));
    }

    public int differ(int s, int other) {
        if (!desk.hasStamp(s) || !desk.hasStamp(other) || s == other) {
            return refuse(NO_SUCH);
        }
        return answer(desk.setsSaidUnlike(s, other));
    }

    // ---- wants

    public int kept() {
        if (!open) {
            return refuse(NO_SUCH);
        }
        return answer(keeper.mostWants(NONE, NONE));
    }

    public int keptBy(int p) {
        if (!desk.hasPaper(p)) {
            return refuse(NO_SUCH);
        }
        return answer(keeper.pairFor(p));
    }

    public int toFill() {
        if (!open) {
            return refuse(NO_SUCH);
        }
        return answer(keeper.stampToFill());
    }

    // ---- words

    public int worded() {
        if (!open) {
            return refuse(NO_SUCH);
        }
        return answer(desk.fewestMarksForYes());
    }

    public int reword(int p, int s, int verdict) {
        if (!desk.hasPaper(p) || !desk.hasStamp(s)) {
            return refuse(NO_SUCH);
        }
        if (!isVerdict(verdict)) {
            return refuse(BAD_NUMBER);
        }
        return answer(desk.fewestChanges(p, s, verdict));
    }

    public int bestMark(int p) {
        if (!desk.hasPaper(p)) {
            return refuse(NO_SUCH);
        }
        return answer(desk.markForMostYes(p));
    }

    // ---- a stranger

    public long odds(int s, boolean lower) {
        if (!desk.hasStamp(s)) {
            return refuse(NO_SUCH);
        }
        return answerPart(stranger.weight(s), stranger.allWeights(), lower);
    }

    public int likeliest() {
        if (!open) {
            return refuse(NO_SUCH);
        }
        return answer(stranger.heaviest());
    }

    public long next(int p, int h, int verdict, boolean lower) {
        if (!desk.hasPaper(p) || !desk.hasHand(h)) {
            return refuse(NO_SUCH);
        }
        if (!isVerdict(verdict)) {
            return refuse(BAD_NUMBER);
        }
        return answerPart(stranger.weightOfPrint(p, h, verdict), 100L * stranger.allWeights(), lower);
    }

    public int laws() {
        if (!open) {
            return refuse(NO_SUCH);
        }
        return answer(Long.bitCount(stranger.fittingLaws()));
    }

    public int lawSays(int p) {
        if (!desk.hasPaper(p)) {
            return refuse(NO_SUCH);
        }
        return answer(stranger.verdictsByLaws(p));
    }

    public int tryNext() {
        if (!open) {
            return refuse(NO_SUCH);
        }
        return answer(stranger.paperToTry());
    }

    public int tryLeaves() {
        if (!open) {
            return refuse(NO_SUCH);
        }
        return answer(stranger.fewestLeft());
    }

    // ---- judgement

    public int judges(int s, int other) {
        if (!desk.hasStamp(s) || !desk.hasStamp(other) || s == other) {
            return refuse(NO_SUCH);
        }
        return answer(desk.sayOf(s, desk.plan.ownMarks[other]));
    }

    public int good(int months) {
        if (!open) {
            return refuse(NO_SUCH);
        }
        if (months < 0 || months > MOST_MONTHS) {
            return refuse(BAD_NUMBER);
        }
        return answer(bench.goodBehind(months));
    }

    public int settled() {
        if (!open) {
            return refuse(NO_SUCH);
        }
        return answer(bench.monthsToSettle());
    }

    public int steady() {
        if (!open) {
            return refuse(NO_SUCH);
        }
        return answer(bench.unchangedSets());
    }

    // ---- a clerk, an applicant

    public int has(int s, int p) {
        if (!desk.hasStamp(s) || !desk.hasPaper(p)) {
            return refuse(NO_SUCH);
        }
        return answer(game.gain(s, p));
    }

    public int clerks() {
        int number = troubleOfGame();
        return number != FINE ? refuse(number) : answer(game.leastOfMost());
    }

    public int applicants() {
        int number = troubleOfGame();
        return number != FINE ? refuse(number) : answer(game.mostOfLeast());
    }

    public int clerkPicks() {
        int number = troubleOfGame();
        return number != FINE ? refuse(number) : answer(game.stampOfClerk());
    }

    public int even() {
        int number = troubleOfGame();
        return number != FINE ? refuse(number) : answer(game.evenPairs());
    }

    // ---- moods, draws

    public long sure(int s, int h, int p, int verdict, boolean lower) {
        if (!desk.hasAll(s, h, p)) {
            return refuse(NO_SUCH);
        }
        if (!isVerdict(verdict)) {
            return refuse(BAD_NUMBER);
        }
        return answerPart(desk.hundredths(h, desk.sayOn(s, p), verdict), 100L, lower);
    }

    public long mean(int s, int h, boolean lower) {
        if (!desk.hasStamp(s) || !desk.hasHand(h)) {
            return refuse(NO_SUCH);
        }
        return answerPart(desk.worthOfYes(s, h), 100L, lower);
    }

    public int presses(int verdict, int seed, int n) {
        int number = troubleOfDraws(isVerdict(verdict), seed, n);
        if (number != FINE) {
            return refuse(number);
        }
        draws.run(seed, n);
        return answer(draws.counts[verdict]);
    }

    public int birds(int seed, int n) {
        int number = troubleOfDraws(true, seed, n);
        if (number != FINE) {
            return refuse(number);
        }
        draws.run(seed, n);
        return answer(draws.birdCount);
    }

    public int printed(int p, int seed, int n) {
        if (!desk.hasPaper(p)) {
            return refuse(NO_SUCH);
        }
        int number = troubleOfDraws(true, seed, n);
        if (number != FINE) {
            return refuse(number);
        }
        draws.run(seed, n);
        return answer(draws.latest[p]);
    }

    // ---- acts

    public int press(int s, int h, int p) {
        if (!desk.hasAll(s, h, p)) {
            return refuse(NO_SUCH);
        }
        if (desk.now.inkOf(s) <= 0) {
            return refuse(THERE_IS_NONE);
        }
        int print = desk.printBy(h, desk.sayOn(s, p));
        past.remember(desk.now);
        desk.now.pressOnce(s, h, p, print);
        return answer(print);
    }

    public boolean carve(int k, int verdict) {
        if (!desk.hasRule(k)) {
            return deny(NO_SUCH);
        }
        if (!isVerdict(verdict)) {
            return deny(BAD_NUMBER);
        }
        if (desk.now.verdictOf(k) == verdict) {
            return deny(NOT_SO);
        }
        past.remember(desk.now);
        desk.now.setVerdict(k, verdict);
        return allow();
    }

    public boolean mark(int p, int m, boolean is) {
        if (!desk.hasPaper(p) || !desk.hasMark(m)) {
            return deny(NO_SUCH);
        }
        int marks = desk.now.marksOf(p);
        if (hasBit(marks, m) == is) {
            return deny(NOT_SO);
        }
        past.remember(desk.now);
        desk.now.setMarks(p, marks ^ 1 << m);
        return allow();
    }

    public boolean fill(int s, int ink) {
        if (!desk.hasStamp(s)) {
            return deny(NO_SUCH);
        }
        if (ink < 1 || ink > MOST_INK) {
            return deny(BAD_NUMBER);
        }
        if (desk.now.inkOf(s) >= ink) {
            return deny(NOT_SO);
        }
        past.remember(desk.now);
        desk.now.setInk(s, ink);
        return allow();
    }

    public boolean undo() {
        if (past.acts <= 0) {
            return deny(THERE_IS_NONE);
        }
        past.takeBack(desk.now);
        return allow();
    }

    public int image() {
        if (!open) {
            return refuse(NO_SUCH);
        }
        if (!past.hasRoomForImage()) {
            return refuse(NO_ROOM);
        }
        return answer(past.keepImage(desk.now));
    }

    public boolean back(int image) {
        if (image < 0 || image >= past.images) {
            return deny(NO_SUCH);
        }
        past.returnTo(image, desk.now);
        return allow();
    }

    // ---- what is told

    public int led(int i) throws NoSuchElementException {
        int before = 0;
        for (int p = 0; p < desk.plan.papers; p++) {
            if (desk.now.latestOn(p) == YES) {
                if (before == i) {
                    return p;
                }
                before++;
            }
        }
        throw new NoSuchElementException("no such paper");
    }

    public int size(int what) {
        switch (what) {
            case 0:
                return desk.plan.birds;
            case 1:
                return desk.plan.marks;
            case 2:
                return desk.plan.papers;
            case 3:
                return desk.plan.stamps;
            case 4:
                return desk.plan.rules;
            case 5:
                return desk.plan.hands;
            case 6:
                return desk.plan.wants;
            case 7:
                return desk.plan.prints;
            case 8:
                return desk.now.pressesSoFar();
            case 9:
                return past.acts;
            case 10:
                return past.images;
            case 11:
                return tape.filled;
            default:
                return NONE;
        }
    }

    public int trouble() {
        return lastTrouble;
    }

    // ---- how calls end

    private int refuse(int number) {
        lastTrouble = number;
        return NONE;
    }

    private boolean deny(int number) {
        lastTrouble = number;
        return false;
    }

    private boolean allow() {
        lastTrouble = FINE;
        return true;
    }

    private int answer(int value) {
        lastTrouble = FINE;
        return value;
    }

    private long answerPart(long upper, long lower, boolean wantsLower) {
        lastTrouble = FINE;
        if (upper == 0 || lower == 0) {
            return wantsLower ? 1 : 0;
        }
        long divisor = commonDivisor(upper, lower);
        if (divisor == 0) {
            return 0;
        }
        return wantsLower ? lower / divisor : upper / divisor;
    }

    /** Numbers here stay below 10 to the 11th, for which Euclid needs fewer than 60 steps. */
    private static long commonDivisor(long one, long two) {
        long a = one;
        long b = two;
        for (int step = 0; step < 100 && b != 0; step++) {
            long rest = a % b;
            a = b;
            b = rest;
        }
        return a;
    }

    private int troubleOfGame() {
        if (!open) {
            return NO_SUCH;
        }
        return desk.plan.stamps == 0 ? THERE_IS_NONE : FINE;
    }

    private int troubleOfDraws(boolean verdictFits, int seed, int n) {
        if (!open) {
            return NO_SUCH;
        }
        if (!verdictFits || seed < 0 || seed > LAST_SEED || n < 0 || n > MOST_PRESSES) {
            return BAD_NUMBER;
        }
        return desk.plan.stamps == 0 || desk.plan.hands == 0 ? THERE_IS_NONE : FINE;
    }

    /** The plan read last becomes the office's; the one before is kept to be written over, so that none is made anew. */
    private void openOffice() {
        Plan read = reader.plan;
        reader.plan = desk.plan;
        desk.plan = read;
        desk.now.copyFrom(reader.start.cells);
        past.forget();
        open = true;
    }

    private static boolean isVerdict(int verdict) {
        return verdict >= 0 && verdict < VERDICTS;
    }

    private static boolean hasBit(int bits, int i) {
        return (bits >> i & 1) == 1;
    }

    /** THE TAPE, and the TOKEN of its text that is looked at. */
    private static final class Tape {
        static final int BYTES = 900;
        static final int FED_AT_ONCE = 20;
        static final int LONGEST_WORD = 8;
        static final int LONGEST_WHOLE = 3;

        static final int END = 0;
        static final int WORD = 1;
        static final int WHOLE = 2;
        static final int SEMICOLON = 3;
        static final int COMMA = 4;
        static final int NO_TOKEN = 5;

        final byte[] bytes = new byte[BYTES];
        int filled;
        int length;
        int sort;
        int from;
        int to;
        long word;

        boolean hasRoom() {
            return filled + FED_AT_ONCE <= BYTES;
        }

        void put(int four) {
            for (int shift = 24; shift >= 0; shift -= 8) {
                if (filled < BYTES) {
                    bytes[filled] = (byte) (four >> shift);
                    filled++;
                }
            }
        }

        void begin(int n) {
            length = n;
            to = 0;
            advance();
        }

        void advance() {
            from = to;
            while (from < length && bytes[from] == ' ') {
                from++;
            }
            to = from;
            if (from >= length) {
                sort = END;
                word = 0;
                return;
            }
            sort = sortAt(from);
            to = from + 1;
            while ((sort == WORD || sort == WHOLE) && to < length && sortAt(to) == sort) {
                to++;
            }
            if (sort == WORD && to - from > LONGEST_WORD || sort == WHOLE && to - from > LONGEST_WHOLE) {
                sort = NO_TOKEN;
            }
            word = sort == WORD ? spelling() : 0;
        }

        /** The sort of the TOKEN to which a byte belongs. */
        private int sortAt(int i) {
            int b = bytes[i];
            if (b >= 'a' && b <= 'z') {
                return WORD;
            }
            if (b >= '0' && b <= '9') {
                return WHOLE;
            }
            return b == ';' ? SEMICOLON : b == ',' ? COMMA : NO_TOKEN;
        }

        /** Only asked of a WHOLE, whose three digits at most keep the value below 1000. */
        int value() {
            int value = 0;
            for (int i = from; i < to; i++) {
                value = 10 * value + (bytes[i] - '0');
            }
            return value;
        }

        /** The letters of a WORD as one number, five bits each: eight of them have room in it. */
        private long spelling() {
            long letters = 0;
            for (int i = from; i < to; i++) {
                letters = letters << 5 | bytes[i] & 31;
            }
            return letters;
        }

        /** Spells as spelling() does, words parted by single blanks. */
        static void spellAll(String words, long[] spellings) {
            int number = 0;
            for (int i = 0; i < words.length() && number < spellings.length; i++) {
                if (words.charAt(i) == ' ') {
                    number++;
                } else {
                    spellings[number] = spellings[number] << 5 | words.charAt(i) & 31;
                }
            }
        }

        /** Which of these words the TOKEN is, or NONE; what is no WORD is spelt 0, as none of them is. */
        int choice(long[] words) {
            for (int i = 0; i < words.length; i++) {
                if (words[i] == word) {
                    return i;
                }
            }
            return NONE;
        }
    }

    /** What the text tells and no ACT changes. */
    private static final class Plan {
        final int[] worth = new int[PAPERS];
        final int[] want = new int[PAPERS];
        final int[] otherwise = new int[STAMPS];
        final int[] ownMarks = new int[STAMPS];
        final int[] ruleStamp = new int[RULES];
        final int[] ruleMark = new int[RULES];
        final int[] ruleNot = new int[RULES];
        final int[] kind = new int[HANDS];
        final int[] moody = new int[HANDS];
        final int[] printPaper = new int[PRINTS];
        final int[] printHand = new int[PRINTS];
        final int[] printVerdict = new int[PRINTS];
        int birds;
        int marks;
        int papers;
        int stamps;
        int rules;
        int hands;
        int wants;
        int prints;

        /** The counts alone say what is there; rows behind them may hold what an earlier text told. */
        void empty() {
            birds = 0;
            marks = 0;
            papers = 0;
            stamps = 0;
            rules = 0;
            hands = 0;
            wants = 0;
            prints = 0;
        }

        int markSets() {
            return 1 << marks;
        }

        int rulesOf(int s) {
            int count = 0;
            for (int k = 0; k < rules; k++) {
                if (ruleStamp[k] == s) {
                    count++;
                }
            }
            return count;
        }
    }

    /** What ACTS change, in one row of cells, so that one copy keeps it all. */
    private static final class Now {
        static final int MARKS_AT = 0;
        static final int LATEST_AT = MARKS_AT + PAPERS;
        static final int INK_AT = LATEST_AT + PAPERS;
        static final int BY_STAMP_AT = INK_AT + STAMPS;
        static final int VERDICT_AT = BY_STAMP_AT + STAMPS;
        static final int BY_HAND_AT = VERDICT_AT + RULES;
        static final int CELLS = BY_HAND_AT + HANDS;

        final int[] cells = new int[CELLS];

        void empty() {
            for (int i = 0; i < CELLS; i++) {
                cells[i] = 0;
            }
            for (int p = 0; p < PAPERS; p++) {
                cells[LATEST_AT + p] = ABSENT;
            }
        }

        void copyFrom(int[] other) {
            for (int i = 0; i < CELLS; i++) {
                cells[i] = other[i];
            }
        }

        void copyTo(int[] other) {
            for (int i = 0; i < CELLS; i++) {
                other[i] = cells[i];
            }
        }

        int marksOf(int p) {
            return cells[MARKS_AT + p];
        }

        void setMarks(int p, int marks) {
            cells[MARKS_AT + p] = marks;
        }

        int latestOn(int p) {
            return cells[LATEST_AT + p];
        }

        int inkOf(int s) {
            return cells[INK_AT + s];
        }

        void setInk(int s, int ink) {
            cells[INK_AT + s] = ink;
        }

        int verdictOf(int k) {
            return cells[VERDICT_AT + k];
        }

        void setVerdict(int k, int verdict) {
            cells[VERDICT_AT + k] = verdict;
        }

        int pressesOfStamp(int s) {
            return cells[BY_STAMP_AT + s];
        }

        int pressesOfHand(int h) {
            return cells[BY_HAND_AT + h];
        }

        void pressOnce(int s, int h, int p, int print) {
            cells[LATEST_AT + p] = print;
            cells[INK_AT + s]--;
            cells[BY_STAMP_AT + s]++;
            cells[BY_HAND_AT + h]++;
        }

        int pressesSoFar() {
            int sum = 0;
            for (int h = 0; h < HANDS; h++) {
                sum += pressesOfHand(h);
            }
            return sum;
        }
    }

    /** What was ahead of the latest ACTS, in a ring of rows, and the IMAGES. */
    private static final class Past {
        static final int MOST_ACTS = 16;
        static final int MOST_IMAGES = 3;

        final int[][] before = new int[MOST_ACTS][Now.CELLS];
        final int[][] kept = new int[MOST_IMAGES][Now.CELLS];
        int free;
        int acts;
        int images;

        void forget() {
            acts = 0;
            images = 0;
        }

        void remember(Now now) {
            now.copyTo(before[free]);
            free = free + 1 < MOST_ACTS ? free + 1 : 0;
            if (acts < MOST_ACTS) {
                acts++;
            }
        }

        void takeBack(Now now) {
            free = free > 0 ? free - 1 : MOST_ACTS - 1;
            now.copyFrom(before[free]);
            acts--;
        }

        boolean hasRoomForImage() {
            return images < MOST_IMAGES;
        }

        int keepImage(Now now) {
            int number = images;
            now.copyTo(kept[number]);
            images++;
            return number;
        }

        void returnTo(int number, Now now) {
            now.copyFrom(kept[number]);
            acts = 0;
        }
    }

    /** Reads the text of an OFFICE from the left, up to its first FAULT. */
    private static final class Reader {
        static final int OFFICE = 0;
        static final int MARK = 1;
        static final int PAPER = 2;
        static final int STAMP = 3;
        static final int RULE = 4;
        static final int HAND = 5;
        static final int WANT = 6;
        static final int PRINT = 7;
        static final int NOT = 8;

        static final int BIRDS = 0;
        static final int WORTH = 1;
        static final int INK = 2;
        static final int ELSE = 3;
        static final int MOODY = 4;

        static final int FORM = 1;
        static final int UNTOLD = 2;
        static final int AGAIN = 3;
        static final int OUT_OF_BOUNDS = 4;
        static final int MANY = 5;
        static final int LACKS = 6;

        static final int NAMES = MARKS + PAPERS + STAMPS + HANDS;

        final Tape tape;
        final long[] notNames = new long[9];
        final long[] fillers = new long[5];
        final long[] verdicts = new long[VERDICTS];
        final long[] kinds = new long[4];
        final Now start = new Now();
        final long[] nameWord = new long[NAMES];
        final int[] nameSort = new int[NAMES];
        final int[] nameNumber = new int[NAMES];
        Plan plan = new Plan();
        int names;
        boolean officeTold;
        int fault;
        int place;

        Reader(Tape tape) {
            this.tape = tape;
            Tape.spellAll("office mark paper stamp rule hand want print not", notNames);
            Tape.spellAll("birds worth ink else moody", fillers);
            Tape.spellAll("no yes faint", verdicts);
            Tape.spellAll("straight kind stern cross", kinds);
        }

        boolean readText(int n) {
            plan.empty();
            start.empty();
            names = 0;
            officeTold = false;
            fault = 0;
            place = NONE;
            tape.begin(n);
            // Each LINE takes a byte at least, so there are never more of them than bytes.
            for (int line = 0; line <= Tape.BYTES && readLine() && tape.sort != Tape.END; line++) {
                if (tape.sort != Tape.SEMICOLON) {
                    return fail(FORM);
                }
                tape.advance();
            }
            if (fault == 0 && plan.papers == 0) {
                return fail(LACKS);
            }
            return fault == 0;
        }

        private boolean readLine() {
            int sort = tape.choice(notNames);
            if (sort < OFFICE || sort > PRINT) {
                return fail(FORM);
            }
            if (sort == OFFICE && officeTold) {
                return fail(AGAIN);
            }
            if (sort != OFFICE && !officeTold) {
                return fail(LACKS);
            }
            if (isFull(sort)) {
                return fail(MANY);
            }
            tape.advance();
            switch (sort) {
                case OFFICE:
                    return readOffice();
                case MARK:
                    return readMark();
                case PAPER:
                    return readPaper();
                case STAMP:
                    return readStamp();
                case RULE:
                    return readRule();
                case HAND:
                    return readHand();
                case WANT:
                    return readWant();
                default:
                    return readPrint();
            }
        }

        private boolean isFull(int sort) {
            switch (sort) {
                case MARK:
                    return plan.marks >= MARKS;
                case PAPER:
                    return plan.papers >= PAPERS;
                case STAMP:
                    return plan.stamps >= STAMPS;
                case RULE:
                    return plan.rules >= RULES;
                case HAND:
                    return plan.hands >= HANDS;
                case PRINT:
                    return plan.prints >= PRINTS;
                default:
                    return false;
            }
        }

        private boolean readOffice() {
            officeTold = true;
            if (!takeFiller(BIRDS)) {
                return false;
            }
            plan.birds = takeWhole(MOST_IN_HUNDRED);
            return fault == 0;
        }

        private boolean readMark() {
            if (!takeNewName(MARK, plan.marks)) {
                return false;
            }
            plan.marks++;
            return true;
        }

        private boolean readPaper() {
            int p = plan.papers;
            if (!takeNewName(PAPER, p) || !takeFiller(WORTH)) {
                return false;
            }
            plan.worth[p] = takeWhole(MOST_WORTH);
            if (fault != 0) {
                return false;
            }
            start.setMarks(p, takeMarks());
            plan.want[p] = ABSENT;
            plan.papers++;
            return fault == 0;
        }

        private boolean readStamp() {
            int s = plan.stamps;
            if (!takeNewName(STAMP, s) || !takeFiller(INK)) {
                return false;
            }
            start.setInk(s, takeWhole(MOST_INK));
            if (fault != 0 || !takeFiller(ELSE)) {
                return false;
            }
            plan.otherwise[s] = takeChoice(verdicts);
            if (fault != 0) {
                return false;
            }
            plan.ownMarks[s] = takeMarks();
            plan.stamps++;
            return fault == 0;
        }

        private boolean readRule() {
            int k = plan.rules;
            plan.ruleStamp[k] = takeOldName(STAMP);
            if (fault != 0) {
                return false;
            }
            plan.ruleNot[k] = 0;
            if (tape.choice(notNames) == NOT) {
                plan.ruleNot[k] = 1;
                tape.advance();
            }
            plan.ruleMark[k] = takeOldName(MARK);
            if (fault != 0) {
                return false;
            }
            start.setVerdict(k, takeChoice(verdicts));
            plan.rules++;
            return fault == 0;
        }

        private boolean readHand() {
            int h = plan.hands;
            if (!takeNewName(HAND, h)) {
                return false;
            }
            plan.kind[h] = takeChoice(kinds);
            if (fault != 0 || !takeFiller(MOODY)) {
                return false;
            }
            plan.moody[h] = takeWhole(MOST_IN_HUNDRED);
            plan.hands++;
            return fault == 0;
        }

        private boolean readWant() {
            int p = findOldName(PAPER);
            if (p < 0) {
                return false;
            }
            if (plan.want[p] != ABSENT) {
                return fail(AGAIN);
            }
            tape.advance();
            plan.want[p] = takeChoice(verdicts);
            plan.wants++;
            return fault == 0;
        }

        private boolean readPrint() {
            int i = plan.prints;
            plan.printPaper[i] = takeOldName(PAPER);
            if (fault != 0) {
                return false;
            }
            plan.printHand[i] = takeOldName(HAND);
            if (fault != 0) {
                return false;
            }
            plan.printVerdict[i] = takeChoice(verdicts);
            plan.prints++;
            return fault == 0;
        }

        /** Marks are unlike, so one more than all of them ends in a FAULT. */
        private int takeMarks() {
            int bits = 0;
            for (int i = 0; i <= MARKS && tape.sort == Tape.COMMA; i++) {
                tape.advance();
                int m = findOldName(MARK);
                if (m < 0) {
                    return 0;
                }
                if (hasBit(bits, m)) {
                    fail(AGAIN);
                    return 0;
                }
                bits |= 1 << m;
                tape.advance();
            }
            return bits;
        }

        private boolean takeFiller(int filler) {
            if (tape.choice(fillers) != filler) {
                return fail(FORM);
            }
            tape.advance();
            return true;
        }

        private int takeChoice(long[] words) {
            int number = tape.choice(words);
            if (number < 0) {
                fail(FORM);
                return NONE;
            }
            tape.advance();
            return number;
        }

        private int takeWhole(int most) {
            if (tape.sort != Tape.WHOLE) {
                fail(FORM);
                return 0;
            }
            int value = tape.value();
            if (value > most) {
                fail(OUT_OF_BOUNDS);
                return 0;
            }
            tape.advance();
            return value;
        }

        private boolean takeNewName(int sort, int number) {
            if (tape.sort != Tape.WORD || tape.choice(notNames) >= 0) {
                return fail(FORM);
            }
            if (findName() >= 0 || names >= NAMES) {
                return fail(AGAIN);
            }
            nameWord[names] = tape.word;
            nameSort[names] = sort;
            nameNumber[names] = number;
            names++;
            tape.advance();
            return true;
        }

        private int takeOldName(int sort) {
            int number = findOldName(sort);
            if (number >= 0) {
                tape.advance();
            }
            return number;
        }

        /** Stays at the name, since a FAULT of its own may still be found there. */
        private int findOldName(int sort) {
            if (tape.sort != Tape.WORD || tape.choice(notNames) >= 0) {
                fail(FORM);
                return NONE;
            }
            int i = findName();
            if (i < 0 || nameSort[i] != sort) {
                fail(UNTOLD);
                return NONE;
            }
            return nameNumber[i];
        }

        private int findName() {
            for (int i = 0; i < names; i++) {
                if (nameWord[i] == tape.word) {
                    return i;
                }
            }
            return NONE;
        }

        private boolean fail(int number) {
            fault = number;
            place = tape.from;
            return false;
        }
    }

    /** The OFFICE as it is NOW: what stamps SAY and hands PRINT. */
    private static final class Office {
        static final int KIND = 1;
        static final int STERN = 2;
        static final int CROSS = 3;

        final Now now = new Now();
        Plan plan = new Plan();

        boolean hasMark(int m) {
            return m >= 0 && m < plan.marks;
        }

        boolean hasPaper(int p) {
            return p >= 0 && p < plan.papers;
        }

        boolean hasStamp(int s) {
            return s >= 0 && s < plan.stamps;
        }

        boolean hasHand(int h) {
            return h >= 0 && h < plan.hands;
        }

        boolean hasRule(int k) {
            return k >= 0 && k < plan.rules;
        }

        boolean hasAll(int s, int h, int p) {
            return hasStamp(s) && hasHand(h) && hasPaper(p);
        }

        int firstRule(int s, int marks) {
            for (int k = 0; k < plan.rules; k++) {
                if (plan.ruleStamp[k] == s && (marks >> plan.ruleMark[k] & 1) != plan.ruleNot[k]) {
                    return k;
                }
            }
            return ABSENT;
        }

        int sayOf(int s, int marks) {
            int k = firstRule(s, marks);
            return k >= 0 ? now.verdictOf(k) : plan.otherwise[s];
        }

        int sayOn(int s, int p) {
            return sayOf(s, now.marksOf(p));
        }

        /** Moods aside. */
        int printBy(int h, int said) {
            switch (plan.kind[h]) {
                case KIND:
                    return said == FAINT ? YES : said;
                case STERN:
                    return said == FAINT ? NO : said;
                case CROSS:
                    return said == FAINT ? FAINT : said == YES ? NO : YES;
                default:
                    return said;
            }
        }

        /** Of a hundred presses by a hand, what a stamp SAYS being given, those that PRINT a verdict. */
        int hundredths(int h, int said, int verdict) {
            int moody = plan.moody[h];
            int byMood = verdict == FAINT ? moody : 0;
            return byMood + (printBy(h, said) == verdict ? 100 - moody : 0);
        }

        long worthOfYes(int s, int h) {
            long sum = 0;
            for (int p = 0; p < plan.papers; p++) {
                sum += plan.worth[p] * hundredths(h, sayOn(s, p), YES);
            }
            return sum;
        }

        int stampsThatSay(int marks, int verdict) {
            int bits = 0;
            for (int s = 0; s < plan.stamps; s++) {
                if (sayOf(s, marks) == verdict) {
                    bits |= 1 << s;
                }
            }
            return bits;
        }

        int rulesNeverFirst(int s) {
            int bits = 0;
            for (int k = 0; k < plan.rules; k++) {
                if (plan.ruleStamp[k] == s) {
                    bits |= 1 << k;
                }
            }
            for (int marks = 0; marks < plan.markSets(); marks++) {
                int k = firstRule(s, marks);
                if (k >= 0) {
                    bits &= ~(1 << k);
                }
            }
            return bits;
        }

        int setsSaidUnlike(int s, int other) {
            int count = 0;
            for (int marks = 0; marks < plan.markSets(); marks++) {
                if (sayOf(s, marks) != sayOf(other, marks)) {
                    count++;
                }
            }
            return count;
        }

        int fewestMarksForYes() {
            int all = (1 << plan.stamps) - 1;
            int best = ABSENT;
            for (int marks = 0; marks < plan.markSets(); marks++) {
                if (isFewer(marks, best) && stampsThatSay(marks, YES) == all) {
                    best = marks;
                }
            }
            return best;
        }

        int fewestChanges(int p, int s, int verdict) {
            int best = ABSENT;
            for (int changes = 0; changes < plan.markSets(); changes++) {
                if (isFewer(changes, best) && sayOf(s, now.marksOf(p) ^ changes) == verdict) {
                    best = changes;
                }
            }
            return best;
        }

        /** Sets are tried by their bits, so of like ones the one found first stays. */
        private static boolean isFewer(int set, int best) {
            return best < 0 || Integer.bitCount(set) < Integer.bitCount(best);
        }

        int markForMostYes(int p) {
            int best = ABSENT;
            int most = Integer.bitCount(stampsThatSay(now.marksOf(p), YES));
            for (int m = 0; m < plan.marks; m++) {
                int yes = Integer.bitCount(stampsThatSay(now.marksOf(p) ^ 1 << m, YES));
                if (yes > most) {
                    most = yes;
                    best = m;
                }
            }
            return best;
        }
    }

    /** KEPT: tries pairs in their order, paper by paper, and keeps the first of the best. */
    private static final class Keeper {
        static final int MOST_BY_A_HAND = 2;
        static final int NAME_OF_STAMP = 10;

        final Office desk;
        final int[] fits = new int[PAPERS];
        final int[] stillToKeep = new int[PAPERS + 1];
        final int[] inkLeft = new int[STAMPS];
        final int[] handLeft = new int[HANDS];
        final int[] tried = new int[PAPERS];
        final int[] best = new int[PAPERS];
        int most;
        int enough;

        Keeper(Office desk) {
            this.desk = desk;
        }

        int pairFor(int p) {
            mostWants(NONE, NONE);
            return best[p];
        }

        int stampToFill() {
            int now = mostWants(NONE, NONE);
            for (int s = 0; s < desk.plan.stamps; s++) {
                if (mostWants(s, now) > now) {
                    return s;
                }
            }
            return ABSENT;
        }

        /**
         * The most wants that are kept if the stamp named first (NONE: none) has one ink more. Ways that keep no
         * more than what is known already are passed over.
         */
        int mostWants(int stampWithMore, int known) {
            setRooms(stampWithMore);
            setFits();
            enough = mostThatCanBe();
            most = known;
            tryPaper(0, 0);
            return most;
        }

        private void setRooms(int stampWithMore) {
            for (int s = 0; s < desk.plan.stamps; s++) {
                inkLeft[s] = desk.now.inkOf(s) + (s == stampWithMore ? 1 : 0);
            }
            for (int h = 0; h < desk.plan.hands; h++) {
                handLeft[h] = MOST_BY_A_HAND;
            }
        }

        private void setFits() {
            stillToKeep[desk.plan.papers] = 0;
            for (int p = desk.plan.papers - 1; p >= 0; p--) {
                fits[p] = desk.plan.want[p] == ABSENT ? 0 : pairsThatPrint(p, desk.plan.want[p]);
                stillToKeep[p] = stillToKeep[p + 1] + (fits[p] == 0 ? 0 : 1);
            }
        }

        private int pairsThatPrint(int p, int verdict) {
            int bits = 0;
            int marks = desk.now.marksOf(p);
            for (int s = 0; s < desk.plan.stamps; s++) {
                int said = desk.sayOf(s, marks);
                for (int h = 0; h < desk.plan.hands && inkLeft[s] > 0; h++) {
                    if (desk.printBy(h, said) == verdict) {
                        bits |= 1 << s * HANDS + h;
                    }
                }
            }
            return bits;
        }

        /** A bound by which the search ends as soon as nothing better can come. */
        private int mostThatCanBe() {
            int ink = 0;
            for (int s = 0; s < desk.plan.stamps; s++) {
                ink += inkLeft[s];
            }
            int byHands = MOST_BY_A_HAND * desk.plan.hands;
            return Math.min(stillToKeep[0], Math.min(ink, byHands));
        }

        /** Goes one paper deeper with each call of itself: six levels at most. */
        private void tryPaper(int p, int count) {
            if (most >= enough || p > desk.plan.papers || count + stillToKeep[p] <= most) {
                return;
            }
            if (p == desk.plan.papers) {
                keepTried(count);
                return;
            }
            for (int s = 0; s < desk.plan.stamps; s++) {
                for (int h = 0; h < desk.plan.hands; h++) {
                    if (canPress(s, h, p)) {
                        tryPair(s, h, p, count);
                    }
                }
            }
            tried[p] = ABSENT;
            tryPaper(p + 1, count);
        }

        private boolean canPress(int s, int h, int p) {
            return hasBit(fits[p], s * HANDS + h) && inkLeft[s] > 0 && handLeft[h] > 0;
        }

        private void tryPair(int s, int h, int p, int count) {
            tried[p] = NAME_OF_STAMP * s + h;
            inkLeft[s]--;
            handLeft[h]--;
            tryPaper(p + 1, count + 1);
            inkLeft[s]++;
            handLeft[h]++;
        }

        private void keepTried(int count) {
            most = count;
            for (int p = 0; p < desk.plan.papers; p++) {
                best[p] = tried[p];
            }
        }
    }

    /** Which stamp PRINTED the prints told: by odds, and by LAWS of one rule. */
    private static final class Stranger {
        /** By a mark there are six laws: three verdicts if it is there, two others if it isn't. */
        static final int LAWS_BY_MARK = 6;

        final Office desk;

        Stranger(Office desk) {
            this.desk = desk;
        }

        /** How likely a stamp PRINTS all prints told, in parts of a hundred for each print. */
        long weight(int s) {
            long product = 1;
            for (int i = 0; i < desk.plan.prints; i++) {
                int said = desk.sayOn(s, desk.plan.printPaper[i]);
                product *= desk.hundredths(desk.plan.printHand[i], said, desk.plan.printVerdict[i]);
            }
            return product;
        }

        long allWeights() {
            long sum = 0;
            for (int s = 0; s < desk.plan.stamps; s++) {
                sum += weight(s);
            }
            return sum;
        }

        long weightOfPrint(int p, int h, int verdict) {
            long sum = 0;
            for (int s = 0; s < desk.plan.stamps; s++) {
                sum += weight(s) * desk.hundredths(h, desk.sayOn(s, p), verdict);
            }
            return sum;
        }

        int heaviest() {
            int best = ABSENT;
            long most = 0;
            for (int s = 0; s < desk.plan.stamps; s++) {
                long weight = weight(s);
                if (weight > most) {
                    most = weight;
                    best = s;
                }
            }
            return best;
        }

        private int lawCount() {
            return VERDICTS + LAWS_BY_MARK * desk.plan.marks;
        }

        /** The first laws are the verdicts for all; behind them come six for each mark. */
        private int sayOfLaw(int law, int marks) {
            if (law < VERDICTS) {
                return law;
            }
            int mark = (law - VERDICTS) / LAWS_BY_MARK;
            int form = (law - VERDICTS) % LAWS_BY_MARK;
            int ifThere = form / 2;
            if (hasBit(marks, mark)) {
                return ifThere;
            }
            return (ifThere + 1 + form % 2) % VERDICTS;
        }

        private boolean isFitting(int law) {
            for (int i = 0; i < desk.plan.prints; i++) {
                int said = sayOfLaw(law, desk.now.marksOf(desk.plan.printPaper[i]));
                if (desk.printBy(desk.plan.printHand[i], said) != desk.plan.printVerdict[i]) {
                    return false;
                }
            }
            return true;
        }

        /** As bits: there are 33 laws at most. */
        long fittingLaws() {
            long bits = 0;
            for (int law = 0; law < lawCount(); law++) {
                if (isFitting(law)) {
                    bits |= 1L << law;
                }
            }
            return bits;
        }

        private int lawsThatSay(long fitting, int p, int verdict) {
            int count = 0;
            for (int law = 0; law < lawCount(); law++) {
                if ((fitting >> law & 1) == 1 && sayOfLaw(law, desk.now.marksOf(p)) == verdict) {
                    count++;
                }
            }
            return count;
        }

        int verdictsByLaws(int p) {
            long fitting = fittingLaws();
            int bits = 0;
            for (int verdict = 0; verdict < VERDICTS; verdict++) {
                if (lawsThatSay(fitting, p, verdict) > 0) {
                    bits |= 1 << verdict;
                }
            }
            return bits;
        }

        private int mostLeft(long fitting, int p) {
            int most = 0;
            for (int verdict = 0; verdict < VERDICTS; verdict++) {
                most = Math.max(most, lawsThatSay(fitting, p, verdict));
            }
            return most;
        }

        private int paperToTryOf(long fitting) {
            int best = ABSENT;
            int fewest = 0;
            for (int p = 0; p < desk.plan.papers && fitting != 0; p++) {
                int left = mostLeft(fitting, p);
                if (best < 0 || left < fewest) {
                    fewest = left;
                    best = p;
                }
            }
            return best;
        }

        int paperToTry() {
            return paperToTryOf(fittingLaws());
        }

        int fewestLeft() {
            long fitting = fittingLaws();
            int p = paperToTryOf(fitting);
            return p >= 0 ? mostLeft(fitting, p) : ABSENT;
        }
    }

    /** JUDGEMENT of stamps by each other; sets of GOOD ones are bits. */
    private static final class Bench {
        final Office desk;

        Bench(Office desk) {
            this.desk = desk;
        }

        private int stampSets() {
            return 1 << desk.plan.stamps;
        }

        private int behindMonth(int ahead) {
            int behind = 0;
            for (int s = 0; s < desk.plan.stamps; s++) {
                int margin = yesOverNo(ahead, s);
                if (margin > 0 || margin == 0 && hasBit(ahead, s)) {
                    behind |= 1 << s;
                }
            }
            return behind;
        }

        private int yesOverNo(int judging, int judged) {
            int margin = 0;
            for (int s = 0; s < desk.plan.stamps; s++) {
                if (s != judged && hasBit(judging, s)) {
                    int said = desk.sayOf(s, desk.plan.ownMarks[judged]);
                    margin += said == YES ? 1 : said == NO ? -1 : 0;
                }
            }
            return margin;
        }

        int goodBehind(int months) {
            int set = stampSets() - 1;
            for (int month = 0; month < months; month++) {
                set = behindMonth(set);
            }
            return set;
        }

        int monthsToSettle() {
            int set = stampSets() - 1;
            for (int months = 0; months <= MOST_MONTHS; months++) {
                int behind = behindMonth(set);
                if (behind == set) {
                    return months;
                }
                set = behind;
            }
            return ABSENT;
        }

        int unchangedSets() {
            int count = 0;
            for (int set = 0; set < stampSets(); set++) {
                if (behindMonth(set) == set) {
                    count++;
                }
            }
            return count;
        }
    }

    /** A CLERK, who picks a stamp, against an APPLICANT, who picks a paper. */
    private static final class Game {
        final Office desk;

        Game(Office desk) {
            this.desk = desk;
        }

        int gain(int s, int p) {
            int said = desk.sayOf(s, desk.now.marksOf(p));
            int worth = desk.plan.worth[p];
            return said == YES ? worth : said == FAINT ? worth / 2 : 0;
        }

        private int mostBy(int s) {
            int most = 0;
            for (int p = 0; p < desk.plan.papers; p++) {
                most = Math.max(most, gain(s, p));
            }
            return most;
        }

        private int leastFor(int p) {
            int least = MOST_WORTH;
            for (int s = 0; s < desk.plan.stamps; s++) {
                least = Math.min(least, gain(s, p));
            }
            return least;
        }

        int leastOfMost() {
            int least = MOST_WORTH;
            for (int s = 0; s < desk.plan.stamps; s++) {
                least = Math.min(least, mostBy(s));
            }
            return least;
        }

        int mostOfLeast() {
            int most = 0;
            for (int p = 0; p < desk.plan.papers; p++) {
                most = Math.max(most, leastFor(p));
            }
            return most;
        }

        int stampOfClerk() {
            int least = leastOfMost();
            for (int s = 0; s < desk.plan.stamps; s++) {
                if (mostBy(s) == least) {
                    return s;
                }
            }
            return NONE;
        }

        int evenPairs() {
            int count = 0;
            for (int s = 0; s < desk.plan.stamps; s++) {
                for (int p = 0; p < desk.plan.papers; p++) {
                    int gain = gain(s, p);
                    if (gain == mostBy(s) && gain == leastFor(p)) {
                        count++;
                    }
                }
            }
            return count;
        }
    }

    /** PRESSES by a SEED, counted anew by each run. */
    private static final class Draws {
        final Office desk;
        final int[] counts = new int[VERDICTS];
        final int[] latest = new int[PAPERS];
        int birdCount;
        int seed;

        Draws(Office desk) {
            this.desk = desk;
        }

        void run(int firstSeed, int n) {
            seed = firstSeed;
            birdCount = 0;
            for (int verdict = 0; verdict < VERDICTS; verdict++) {
                counts[verdict] = 0;
            }
            for (int p = 0; p < PAPERS; p++) {
                latest[p] = ABSENT;
            }
            for (int i = 0; i < n; i++) {
                pressByDraws();
            }
        }

        private void pressByDraws() {
            int s = draw(desk.plan.stamps);
            int h = draw(desk.plan.hands);
            int p = draw(desk.plan.papers);
            boolean inMood = draw(100) < desk.plan.moody[h];
            int print = inMood ? FAINT : desk.printBy(h, desk.sayOn(s, p));
            counts[print]++;
            latest[p] = print;
            if (print == FAINT && draw(100) < desk.plan.birds) {
                birdCount++;
            }
        }

        private int draw(int among) {
            seed = (75 * seed + 74) % (LAST_SEED + 1);
            return among > 0 ? seed % among : 0;
        }
    }
}
