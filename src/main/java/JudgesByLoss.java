/** A bench whose judges may rule only on what they have lost; ../shared/DOC.md tells each call. */
public final class JudgesByLoss {
    public static final int NONE = -1, BAD = -2, STATE = -3, FULL = -4;
    public static final long NO = -4611686018427387904L;

    private static final int NO_JUDGE = -5, NO_CASE = -6, UNTOLD = -7;
    private static final int NOTHING = -11, OUTSIDE = -12, UNLIKE = -13, BELOW_ZERO = -14;
    private static final int NO_ANSWER = -1000, FAULTS = -100, SHIFT = 1000;

    private static final int THINGS = 10, ALL_THINGS = 1023;
    private static final int JUDGES = 6, CASES = 8, KINDS = 6, MORES = 10;
    private static final int MOST = 99, LAST_DAY = 999, MOST_HEARD = 999;
    private static final int TAPE = 160, TEXTS = 6, PARTS = 3;
    private static final int SHEETS = 4, CELLS = 40, MOST_TOLD = 20;
    private static final int RUN_DAYS = 40, WHEN_DAYS = 60, BURGLED_DAYS = 10;
    private static final int SEEDS = 99999, MOST_SEEDS = 40;

    private final Bench truth, thought, kept;
    private boolean imaged;
    private final Text[] texts = new Text[TEXTS];
    private int textCount = 1;
    private final Reader reader = new Reader();
    private final Sheet[] sheets = new Sheet[SHEETS];
    private final int[] most = new int[(CASES + 1) << JUDGES];

    public JudgesByLoss() {
        int[] firstCode = {Text.HARD, Text.THINGS, Text.MIND};
        int[] firstEnds = {1, 2, 3};
        Text first = new Text(firstCode, firstEnds);
        texts[0] = first;
        truth = new Bench(first);
        thought = new Bench(first);
        kept = new Bench(first);
        for (int s = 0; s < SHEETS; s++) {
            sheets[s] = new Sheet();
        }
    }

    // ---- the bench, the law, cases

    public int count(int what) {
        switch (what) {
            case 0: return truth.judges;
            case 1: return Integer.bitCount(truth.there);
            case 2: return truth.heard;
            case 3: return textCount;
            case 4: return truth.lawNumber;
            case 5: return reader.tapeSize;
            case 6: return truth.day;
            default: return BAD;
        }
    }

    public int dawn(int v) {
        if (!within(v, 0, LAST_DAY)) {
            return BAD;
        }
        int was = truth.day;
        truth.day = v;
        return was;
    }

    public int feed(int n, int a, int b, int c, int d, int e) {
        if (!within(n, 1, 5) || !isByte(a) || !isByte(b) || !isByte(c) || !isByte(d) || !isByte(e)) {
            return BAD;
        }
        if (reader.tapeSize + n > TAPE) {
            return FULL;
        }
        reader.addByte(a);
        if (n > 1) {
            reader.addByte(b);
        }
        if (n > 2) {
            reader.addByte(c);
        }
        if (n > 3) {
            reader.addByte(d);
        }
        if (n > 4) {
            reader.addByte(e);
        }
        return reader.tapeSize;
    }

    public int text() {
        if (textCount >= TEXTS) {
            return FULL;
        }
        int fault = reader.faultOfTape();
        reader.tapeSize = 0;
        if (fault != NONE) {
            return FAULTS - fault;
        }
        texts[textCount] = reader.whatWasRead();
        textCount++;
        return textCount - 1;
    }

    public int force(int t) {
        if (!within(t, 0, textCount - 1)) {
            return BAD;
        }
        int was = truth.lawNumber;
        truth.obey(texts[t], t);
        return was;
    }

    public int asks(int part, int p, int c) {
        if (!within(part, 0, PARTS - 1) || !truth.hasJudge(p) || !truth.hasCase(c)) {
            return NO_ANSWER;
        }
        return truth.says(part, p, c);
    }

    public int judge(int kindMore, int own, int minds) {
        if (!within(kindMore, 0, 10 * KINDS - 1) || !isSet(own) || !within(minds, 0, MOST)) {
            return BAD;
        }
        if (truth.judges >= JUDGES) {
            return FULL;
        }
        int p = truth.judges;
        truth.kind[p] = kindMore / 10;
        truth.more[p] = kindMore % 10;
        truth.lost[p] = own;
        truth.mind[p] = minds;
        truth.busy[p] = 0;
        truth.judges++;
        return p;
    }

    public int file(int things, int hardness) {
        if (!within(things, 1, ALL_THINGS) || !within(hardness, 0, MOST)) {
            return BAD;
        }
        for (int c = 0; c < CASES; c++) {
            if (!truth.hasCase(c)) {
                truth.about[c] = things;
                truth.hard[c] = hardness;
                truth.waited[c] = 0;
                truth.there |= 1 << c;
                return c;
            }
        }
        return FULL;
    }

    public int put(int p, int what, int v) {
        if (!truth.hasJudge(p)) {
            return NO_JUDGE;
        }
        if (!within(what, 0, 2) || !within(v, 0, what == 0 ? ALL_THINGS : MOST)) {
            return UNTOLD;
        }
        int[] row = what == 0 ? truth.lost : what == 1 ? truth.mind : truth.busy;
        int was = row[p];
        row[p] = v;
        return was;
    }

    public int told(int p, int what) {
        if (!truth.hasJudge(p)) {
            return NO_JUDGE;
        }
        switch (what) {
            case 0: return truth.lost[p];
            case 1: return truth.mind[p];
            case 2: return truth.busy[p];
            case 3: return truth.kind[p];
            case 4: return truth.more[p];
            case 5: return truth.casesFor(p);
            default: return UNTOLD;
        }
    }

    public int paper(int c, int what) {
        if (!truth.hasCase(c)) {
            return NO_CASE;
        }
        switch (what) {
            case 0: return truth.about[c];
            case 1: return truth.hard[c];
            case 2: return truth.waited[c];
            case 3: return truth.judgesFor(c);
            default: return UNTOLD;
        }
    }

    public int hearing(int p, int c, int what) {
        if (!truth.hasJudge(p)) {
            return NO_JUDGE;
        }
        if (!truth.hasCase(c)) {
            return NO_CASE;
        }
        switch (what) {
            case 0: return truth.may(p, c) ? 1 : 0;
            case 1: return truth.daysFor(p, c);
            case 2: return SHIFT + truth.hardnessOf(p, c);
            default: return UNTOLD;
        }
    }

    // ---- hearings, days

    public int hear(int p, int c) {
        if (!truth.hasJudge(p)) {
            return NO_JUDGE;
        }
        if (!truth.hasCase(c)) {
            return NO_CASE;
        }
        if (!truth.can(p, c)) {
            return STATE;
        }
        return SHIFT + truth.hold(p, c);
    }

    public int rob(int p, int things) {
        if (!truth.hasJudge(p)) {
            return NO_JUDGE;
        }
        if (!isSet(things)) {
            return UNTOLD;
        }
        truth.lost[p] ^= things;
        return truth.lost[p];
    }

    public int day() {
        if (truth.day >= LAST_DAY) {
            return STATE;
        }
        return truth.passDay();
    }

    public int run(int n, int what) {
        if (!within(n, 0, RUN_DAYS) || !canRunTell(what)) {
            return BAD;
        }
        think();
        int heard = heardInThought(n);
        if (what >= 20) {
            return thought.lost[what - 20];
        }
        if (what >= 10) {
            return thought.mind[what - 10];
        }
        return what == 0 ? thought.there : what == 1 ? heard : thought.allWaited();
    }

    public int when(int what) {
        if (!within(what, 0, CASES)) {
            return UNTOLD;
        }
        if (what < CASES && !truth.hasCase(what)) {
            return NO_CASE;
        }
        int awaited = what < CASES ? 1 << what : (1 << CASES) - 1;
        think();
        for (int days = 0; days <= WHEN_DAYS; days++) {
            if ((thought.there & awaited) == 0) {
                return days;
            }
            thought.passDay();
        }
        return NONE;
    }

    // ---- what is best

    public int sitting(int what) {
        if (!within(what, 0, 1)) {
            return BAD;
        }
        fillMost();
        if (what == 0) {
            return most[0];
        }
        int number = 0;
        int sitters = 0;
        for (int c = 0; c < CASES; c++) {
            int digit = leastDigit(c, sitters);
            if (digit > 0) {
                sitters |= 1 << (digit - 1);
            }
            number = 10 * number + digit;
        }
        return number;
    }

    public int burglary(int n, int what) {
        if (!within(n, 0, RUN_DAYS) || !within(what, 0, 1)) {
            return BAD;
        }
        think();
        int best = heardInThought(n);
        int first = NONE;
        for (int p = 0; p < truth.judges; p++) {
            for (int thing = 0; thing < THINGS; thing++) {
                if ((truth.lost[p] >> thing & 1) == 0) {
                    think();
                    thought.lost[p] |= 1 << thing;
                    int heard = heardInThought(n);
                    if (heard > best) {
                        best = heard;
                        first = 10 * p + thing;
                    }
                }
            }
        }
        return what == 0 ? first : best;
    }

    public int wants(int p, int c, int what) {
        if (!truth.hasJudge(p)) {
            return NO_JUDGE;
        }
        if (!truth.hasCase(c)) {
            return NO_CASE;
        }
        if (!within(what, 0, 1)) {
            return UNTOLD;
        }
        int best = fewestLosses(p, c);
        return what == 0 || best == NONE ? best : Integer.bitCount(best);
    }

    public int fullest(int what) {
        if (!within(what, 0, 1)) {
            return BAD;
        }
        int first = NONE;
        int mostCases = 0;
        int mostLost = 0;
        for (int p = 0; p < truth.judges; p++) {
            int cases = Integer.bitCount(truth.casesFor(p));
            int lost = Integer.bitCount(truth.lost[p]);
            if (first == NONE || cases > mostCases || cases == mostCases && lost > mostLost) {
                first = p;
                mostCases = cases;
                mostLost = lost;
            }
        }
        return what == 0 ? first : mostCases;
    }

    public int cruel() {
        int bits = 0;
        for (int c = 0; c < CASES; c++) {
            if (truth.hasCase(c) && truth.judgesFor(c) == 0) {
                bits |= 1 << c;
            }
        }
        return bits;
    }

    public long ruin(int part) {
        if (!within(part, 0, 1) || truth.judges == 0) {
            return NO;
        }
        int sum = 0;
        for (int p = 0; p < truth.judges; p++) {
            sum += Integer.bitCount(truth.lost[p]);
        }
        return partOfFraction(sum, truth.judges, part);
    }

    // ---- told days

    public int tells(int s) {
        int refusal = refusalOfTold(s);
        if (refusal != 0) {
            return refusal;
        }
        think();
        return firstOther(s);
    }

    public int kinds(int s, int p, int sort) {
        int refusal = refusalOfTold(s, p);
        if (refusal != 0) {
            return refusal;
        }
        if (!within(sort, 0, 1)) {
            return UNTOLD;
        }
        int bits = 0;
        for (int v = 0; v < (sort == 0 ? KINDS : MORES); v++) {
            think();
            if (sort == 0) {
                thought.kind[p] = v;
            } else {
                thought.more[p] = v;
            }
            if (firstOther(s) == NONE) {
                bits |= 1 << v;
            }
        }
        return bits;
    }

    public int turned(int s, int p) {
        int refusal = refusalOfTold(s, p);
        if (refusal != 0) {
            return refusal;
        }
        int bits = 0;
        for (int thing = 0; thing < THINGS; thing++) {
            think();
            thought.lost[p] ^= 1 << thing;
            if (firstOther(s) == NONE) {
                bits |= 1 << thing;
            }
        }
        return bits;
    }

    public int states(int s, int p, int sort, int what) {
        int refusal = refusalOfTold(s, p);
        if (refusal != 0) {
            return refusal;
        }
        if (!within(sort, 1, 2) || !within(what, 0, 1)) {
            return UNTOLD;
        }
        int howMany = 0;
        int least = NONE;
        for (int v = 0; v <= MOST; v++) {
            think();
            if (sort == 1) {
                thought.mind[p] = v;
            } else {
                thought.busy[p] = v;
            }
            if (firstOther(s) == NONE) {
                howMany++;
                least = least == NONE ? v : least;
            }
        }
        return what == 0 ? howMany : least;
    }

    public int dropped(int s) {
        int refusal = refusalOfTold(s);
        if (refusal != 0) {
            return refusal;
        }
        int bits = 0;
        for (int c = 0; c < CASES; c++) {
            if (truth.hasCase(c)) {
                think();
                thought.there &= ~(1 << c);
                if (firstOther(s) == NONE) {
                    bits |= 1 << c;
                }
            }
        }
        return bits;
    }

    public int laws(int s) {
        int refusal = refusalOfTold(s);
        if (refusal != 0) {
            return refusal;
        }
        int bits = 0;
        for (int t = 0; t < textCount; t++) {
            think();
            thought.obey(texts[t], t);
            if (firstOther(s) == NONE) {
                bits |= 1 << t;
            }
        }
        return bits;
    }

    public int film(int s, int n) {
        if (!within(s, 0, SHEETS - 1)) {
            return BAD;
        }
        if (!within(n, 0, MOST_TOLD)) {
            return UNTOLD;
        }
        think();
        sheets[s].renew(Sheet.BYTES, n);
        for (int i = 0; i < n; i++) {
            sheets[s].cells[i] = Integer.bitCount(thought.passDay());
        }
        return n;
    }

    // ---- burglars by lots

    public int drawn(int seed, int what) {
        if (!within(seed, 0, SEEDS) || !within(what, 0, 1)) {
            return BAD;
        }
        int heard = heardAmongBurglars(seed);
        return what == 0 ? heard : thought.there;
    }

    public long odds(int seed, int seeds, int least, int part) {
        if (!within(seed, 0, SEEDS) || !within(seeds, 1, MOST_SEEDS)) {
            return NO;
        }
        if (!within(least, 0, CASES) || !within(part, 0, 1)) {
            return NO;
        }
        int good = 0;
        for (int i = 0; i < seeds; i++) {
            if (heardAmongBurglars(seed + i) >= least) {
                good++;
            }
        }
        return partOfFraction(good, seeds, part);
    }

    public int image() {
        kept.become(truth);
        imaged = true;
        return truth.judges;
    }

    public int back() {
        if (!imaged) {
            return STATE;
        }
        truth.become(kept);
        return truth.judges;
    }

    // ---- the host

    public int sheet(int s, int sort, int n) {
        if (!within(s, 0, SHEETS - 1) || !within(sort, Sheet.MISSING, Sheet.INTS)) {
            return BAD;
        }
        if (sort == Sheet.MISSING) {
            sheets[s].renew(sort, 0);
            return 1;
        }
        if (n > CELLS) {
            return BAD;
        }
        if (n < 0) {
            return BELOW_ZERO;
        }
        sheets[s].renew(sort, n);
        return 1;
    }

    public int cell(int s, int i, int v) {
        if (!within(s, 0, SHEETS - 1)) {
            return BAD;
        }
        Sheet sheet = sheets[s];
        if (sheet.isMissing()) {
            return NOTHING;
        }
        if (!within(i, 0, sheet.size - 1)) {
            return OUTSIDE;
        }
        sheet.cells[i] = sheet.cut(v);
        return 1;
    }

    public int copy(int s, int i, int other, int j, int n) {
        if (!within(s, 0, SHEETS - 1) || !within(other, 0, SHEETS - 1)) {
            return BAD;
        }
        Sheet from = sheets[s];
        Sheet to = sheets[other];
        if (from.isMissing() || to.isMissing()) {
            return NOTHING;
        }
        if (from.sort != to.sort) {
            return UNLIKE;
        }
        if (!from.holds(i, n) || !to.holds(j, n)) {
            return OUTSIDE;
        }
        System.arraycopy(from.cells, i, to.cells, j, n);
        return n;
    }

    public int judgesBy(int s, int sort, int from, int n) {
        if (!within(s, 0, SHEETS - 1) || !within(sort, 0, Sheet.INTS) || !within(n, 0, JUDGES)) {
            return BAD;
        }
        Sheet sheet = sheets[s];
        if (sheet.isMissing()) {
            return NOTHING;
        }
        if (sheet.sort != sort) {
            return UNLIKE;
        }
        int came = 0;
        for (int i = 0; i < n; i++) {
            if (!within(from, 0, sheet.size) || !sheet.holds(from + 3 * i, 3)) {
                return OUTSIDE;
            }
            int place = from + 3 * i;
            if (judge(sheet.cells[place], sheet.cells[place + 1], sheet.cells[place + 2]) >= 0) {
                came++;
            }
        }
        return came;
    }

    public int taken(int i, int kind) {
        if (!within(kind, 0, KINDS)) {
            return BAD;
        }
        if (!within(i, 0, JUDGES + CASES - 1)) {
            return OUTSIDE;
        }
        boolean isJudge = i < JUDGES;
        if (isJudge ? !truth.hasJudge(i) : !truth.hasCase(i - JUDGES)) {
            return NOTHING;
        }
        if (isJudge) {
            return truth.isOf(i, kind) ? i : UNLIKE;
        }
        return kind == KINDS ? truth.about[i - JUDGES] : UNLIKE;
    }

    // ---- numbers

    private static boolean within(int v, int least, int greatest) {
        return v >= least && v <= greatest;
    }

    private static boolean isSet(int v) {
        return within(v, 0, ALL_THINGS);
    }

    private static boolean isByte(int v) {
        return within(v, 0, 255);
    }

    private static int commonDivisor(int a, int b) {
        int larger = a;
        int smaller = b;
        // Euclid's steps on ints end before fifty
        for (int i = 0; i < 50 && smaller != 0; i++) {
            int rest = larger % smaller;
            larger = smaller;
            smaller = rest;
        }
        return larger;
    }

    private static long partOfFraction(int above, int below, int part) {
        int divisor = commonDivisor(above, below);
        if (divisor == 0) {
            return NO;
        }
        return (part == 0 ? above : below) / divisor;
    }

    // ---- in thought

    private void think() {
        thought.become(truth);
    }

    private int heardInThought(int days) {
        int heard = 0;
        // without cases further days change nothing that is asked
        for (int i = 0; i < days && thought.there != 0; i++) {
            heard += Integer.bitCount(thought.passDay());
        }
        return heard;
    }

    private boolean canRunTell(int what) {
        return within(what, 0, 2)
            || within(what, 10, 10 + truth.judges - 1)
            || within(what, 20, 20 + truth.judges - 1);
    }

    private int fewestLosses(int p, int c) {
        int own = truth.lost[p];
        int best = NONE;
        int fewest = THINGS + 1;
        think();
        for (int set = 0; set <= ALL_THINGS; set++) {
            // sets come by their bits, so of like ones the first stays
            if ((set & own) == 0 && Integer.bitCount(set) < fewest) {
                thought.lost[p] = own | set;
                if (thought.may(p, c)) {
                    best = set;
                    fewest = Integer.bitCount(set);
                }
            }
        }
        return best;
    }

    private static long nextLot(long lot) {
        return lot * 48271L % 2147483647L;
    }

    private int heardAmongBurglars(int seed) {
        think();
        int heard = 0;
        long lot = seed + 1L;
        for (int i = 0; i < BURGLED_DAYS; i++) {
            lot = nextLot(lot);
            int p = (int) (lot % JUDGES);
            lot = nextLot(lot);
            int thing = (int) (lot % THINGS);
            if (thought.hasJudge(p)) {
                thought.lost[p] ^= 1 << thing;
            }
            heard += Integer.bitCount(thought.passDay());
        }
        return heard;
    }

    // ---- sheets that tell days

    private int refusalOfTold(int s) {
        if (!within(s, 0, SHEETS - 1)) {
            return BAD;
        }
        if (sheets[s].isMissing()) {
            return NOTHING;
        }
        return sheets[s].size > MOST_TOLD ? BAD : 0;
    }

    private int refusalOfTold(int s, int p) {
        int refusal = refusalOfTold(s);
        if (refusal != 0) {
            return refusal;
        }
        return truth.hasJudge(p) ? 0 : NO_JUDGE;
    }

    /** Goes on from the bench as it is in thought, which the caller may have changed ahead. */
    private int firstOther(int s) {
        Sheet sheet = sheets[s];
        for (int i = 0; i < sheet.size; i++) {
            if (Integer.bitCount(thought.passDay()) != sheet.cells[i]) {
                return i;
            }
        }
        return NONE;
    }

    // ---- the most that may sit

    /** Fills by a case and the judges who sit already how many of that case and those behind it can be heard. */
    private void fillMost() {
        int masks = 1 << JUDGES;
        for (int mask = 0; mask < masks; mask++) {
            most[(CASES << JUDGES) + mask] = 0;
        }
        for (int c = CASES - 1; c >= 0; c--) {
            int who = truth.hasCase(c) ? truth.whoCan(c) : 0;
            for (int mask = 0; mask < masks; mask++) {
                int best = mostBehind(c, mask);
                for (int p = 0; p < JUDGES; p++) {
                    if ((who & ~mask & 1 << p) != 0) {
                        best = Math.max(best, 1 + mostBehind(c, mask | 1 << p));
                    }
                }
                most[(c << JUDGES) + mask] = best;
            }
        }
    }

    private int mostBehind(int c, int mask) {
        return most[(c + 1 << JUDGES) + mask];
    }

    private int leastDigit(int c, int mask) {
        int wanted = most[(c << JUDGES) + mask];
        if (mostBehind(c, mask) == wanted) {
            return 0;
        }
        int free = truth.hasCase(c) ? truth.whoCan(c) & ~mask : 0;
        for (int p = 0; p < JUDGES; p++) {
            if ((free & 1 << p) != 0 && 1 + mostBehind(c, mask | 1 << p) == wanted) {
                return p + 1;
            }
        }
        return 0;
    }

    /** Judges, cases, the day and the law: as they truly are, as in thought, or as in the image. */
    private static final class Bench {
        static final int JUDGE = 0, YOUNG = 1, WIDOW = 2, LUCKY = 3, APPEAL = 4, OLD = 5;
        // by KIND, the bits of the KINDS that one of it is
        static final int[] IS_ONE_OF = {1, 3, 5, 11, 21, 33};
        static final int NEEDED = 0, TAKEN = 1, JUDGED = 2;
        static final int NEVER = -1;

        final int[] kind = new int[JUDGES], more = new int[JUDGES];
        final int[] lost = new int[JUDGES], mind = new int[JUDGES], busy = new int[JUDGES];
        final int[] about = new int[CASES], hard = new int[CASES], waited = new int[CASES];
        final int[] facts = new int[6];
        int judges, there, day, heard, lawNumber;
        Text law;

        Bench(Text law) {
            this.law = law;
        }

        void obey(Text text, int number) {
            if (text != null) {
                law = text;
                lawNumber = number;
            }
        }

        void become(Bench other) {
            System.arraycopy(other.kind, 0, kind, 0, JUDGES);
            System.arraycopy(other.more, 0, more, 0, JUDGES);
            System.arraycopy(other.lost, 0, lost, 0, JUDGES);
            System.arraycopy(other.mind, 0, mind, 0, JUDGES);
            System.arraycopy(other.busy, 0, busy, 0, JUDGES);
            System.arraycopy(other.about, 0, about, 0, CASES);
            System.arraycopy(other.hard, 0, hard, 0, CASES);
            System.arraycopy(other.waited, 0, waited, 0, CASES);
            judges = other.judges;
            there = other.there;
            day = other.day;
            heard = other.heard;
            lawNumber = other.lawNumber;
            law = other.law;
        }

        boolean hasJudge(int p) {
            return p >= 0 && p < judges;
        }

        boolean hasCase(int c) {
            return c >= 0 && c < CASES && (there >> c & 1) == 1;
        }

        boolean isOf(int p, int wanted) {
            return (IS_ONE_OF[kind[p]] >> wanted & 1) == 1;
        }

        int says(int part, int p, int c) {
            facts[0] = hard[c];
            facts[1] = Integer.bitCount(about[c]);
            facts[2] = mind[p];
            facts[3] = Integer.bitCount(lost[p]);
            facts[4] = day;
            facts[5] = more[p];
            int least = part == JUDGED ? -MOST : 0;
            return Math.max(least, Math.min(MOST, law.valueOf(part, facts)));
        }

        /** How many times what is NEEDED one has to mind, so that the text is read only where it matters. */
        int burden(int p, int c) {
            int missing = Integer.bitCount(about[c] & ~lost[p]);
            switch (kind[p]) {
                case JUDGE: return missing == 0 ? 1 : NEVER;
                case YOUNG: return missing <= 1 ? 1 : NEVER;
                case WIDOW: return missing == 0 && day % 10 >= more[p] ? 1 : NEVER;
                case LUCKY:
                    if (about[c] == 1 << more[p]) {
                        return 0;
                    }
                    return missing <= 1 && Integer.bitCount(about[c]) >= 3 ? 1 : NEVER;
                case APPEAL: return missing == 0 && day % 10 >= more[p] ? 2 : NEVER;
                case OLD: return day % 7 == more[p] ? 0 : NEVER;
                default: return NEVER;
            }
        }

        boolean may(int p, int c) {
            int burden = burden(p, c);
            return burden != NEVER && (burden == 0 || mind[p] >= burden * says(NEEDED, p, c));
        }

        boolean can(int p, int c) {
            return busy[p] == 0 && may(p, c);
        }

        int daysFor(int p, int c) {
            int said = says(TAKEN, p, c);
            switch (kind[p]) {
                case YOUNG: case LUCKY: return Math.max(1, said + more[p]);
                case APPEAL: return Math.max(1, 2 * said);
                default: return Math.max(1, said);
            }
        }

        int hardnessOf(int p, int c) {
            int said = says(JUDGED, p, c);
            switch (kind[p]) {
                case WIDOW: case APPEAL: return said + more[p];
                case LUCKY: return said / 2;
                case OLD: return -said;
                default: return said;
            }
        }

        int casesFor(int p) {
            int bits = 0;
            for (int c = 0; c < CASES; c++) {
                if (hasCase(c) && may(p, c)) {
                    bits |= 1 << c;
                }
            }
            return bits;
        }

        int judgesFor(int c) {
            int bits = 0;
            for (int p = 0; p < judges; p++) {
                if (may(p, c)) {
                    bits |= 1 << p;
                }
            }
            return bits;
        }

        int whoCan(int c) {
            int bits = 0;
            for (int p = 0; p < judges; p++) {
                if (can(p, c)) {
                    bits |= 1 << p;
                }
            }
            return bits;
        }

        int firstWhoCan(int c) {
            for (int p = 0; p < judges; p++) {
                if (busy[p] == 0 && may(p, c)) {
                    return p;
                }
            }
            return NONE;
        }

        int allWaited() {
            int sum = 0;
            for (int c = 0; c < CASES; c++) {
                sum += hasCase(c) ? waited[c] : 0;
            }
            return sum;
        }

        /** A HEARING: how hard one judged. */
        int hold(int p, int c) {
            int hardness = hardnessOf(p, c);
            busy[p] = daysFor(p, c);
            int ownThere = lost[p] & about[c];
            // x & -x is the lowest bit of x, 0 of 0
            lost[p] &= ~(ownThere & -ownThere);
            mind[p] = Math.max(0, Math.min(MOST, mind[p] + hardness));
            there &= ~(1 << c);
            heard = Math.min(MOST_HEARD, heard + 1);
            return hardness;
        }

        /** A DAY: the cases (bits) that are heard in it. */
        int passDay() {
            for (int p = 0; p < judges; p++) {
                busy[p] = Math.max(0, busy[p] - 1);
            }
            int bits = 0;
            for (int c = 0; c < CASES; c++) {
                if (hasCase(c)) {
                    int p = firstWhoCan(c);
                    if (p == NONE) {
                        waited[c] = Math.min(MOST, waited[c] + 1);
                    } else {
                        hold(p, c);
                        bits |= 1 << c;
                    }
                }
            }
            day++;
            return bits;
        }
    }

    /** A text's three parts, one behind the other, each with what joins behind what is joined. */
    private static final class Text {
        static final int DEEPEST = 40;
        static final int HARD = -1, THINGS = -2, MIND = -3, LOST = -4, DAY = -5, MORE = -6;
        static final int OR = -7, AND = -8, NOT = -9, BELOW = -10, SAME = -11;
        static final int PLUS = -12, MINUS = -13, TIMES = -14, NEGATE = -15;

        final int[] code;
        final int[] ends;
        final int[] stack = new int[DEEPEST];

        Text(int[] code, int[] ends) {
            this.code = code;
            this.ends = ends;
        }

        int valueOf(int part, int[] facts) {
            int end = Math.min(ends[part], code.length);
            int top = -1;
            for (int i = part == 0 ? 0 : ends[part - 1]; i < end; i++) {
                int word = code[i];
                if (word >= MORE && top < DEEPEST - 1) {
                    top++;
                    stack[top] = word >= 0 ? word : facts[-1 - word];
                } else if (top >= 0 && (word == NOT || word == NEGATE)) {
                    stack[top] = word == NEGATE ? -stack[top] : stack[top] == 0 ? 1 : 0;
                } else if (top >= 1) {
                    top--;
                    int a = stack[top];
                    int b = stack[top + 1];
                    switch (word) {
                        case OR: stack[top] = a != 0 || b != 0 ? 1 : 0; break;
                        case AND: stack[top] = a != 0 && b != 0 ? 1 : 0; break;
                        case BELOW: stack[top] = a < b ? 1 : 0; break;
                        case SAME: stack[top] = a == b ? 1 : 0; break;
                        case PLUS: stack[top] = a + b; break;
                        case MINUS: stack[top] = a - b; break;
                        default: stack[top] = a * b; break;
                    }
                }
            }
            return top >= 0 ? stack[top] : 0;
        }
    }

    /** The tape, and how it is read: first its tokens, then by the grammar, until one can't stand there. */
    private static final class Reader {
        static final int OPENS = -20, CLOSES = -21, CLOSES_PART = -22;
        static final int KEY_NEEDS = -23, KEY_TAKES = -24, KEY_JUDGES = -25, TAPE_END = -26, WRONG = -27;
        static final int LEVEL_E = 0, LEVEL_AND = 1, LEVEL_NOT = 2, LEVEL_SUM = 3, LEVEL_TERM = 4, LEVEL_ONE = 5;
        static final int MOST_OPEN = 5, MOST_DIGITS = 4;

        final int[] tape = new int[TAPE];
        final int[] tokens = new int[TAPE + 1], places = new int[TAPE + 1];
        final int[] code = new int[TAPE], ends = new int[PARTS];
        int tapeSize, at, codeSize;

        void addByte(int v) {
            if (tapeSize < TAPE) {
                tape[tapeSize] = v;
                tapeSize++;
            }
        }

        /** The place of the FAULT; NONE. */
        int faultOfTape() {
            scan();
            at = 0;
            codeSize = 0;
            for (int part = 0; part < PARTS; part++) {
                if (!readPart(part)) {
                    return place();
                }
            }
            return token() == TAPE_END ? NONE : place();
        }

        Text whatWasRead() {
            int[] own = new int[codeSize];
            System.arraycopy(code, 0, own, 0, codeSize);
            return new Text(own, ends.clone());
        }

        private int token() {
            return at <= TAPE ? tokens[at] : TAPE_END;
        }

        private int place() {
            return at <= TAPE ? places[at] : tapeSize;
        }

        private boolean skip(int wanted) {
            if (token() != wanted) {
                return false;
            }
            at++;
            return true;
        }

        private void add(int word) {
            if (codeSize < TAPE) {
                code[codeSize] = word;
                codeSize++;
            }
        }

        private boolean readPart(int part) {
            int key = part == 0 ? KEY_NEEDS : part == 1 ? KEY_TAKES : KEY_JUDGES;
            if (!skip(key) || !readLevel(this, LEVEL_E, 0) || !skip(CLOSES_PART)) {
                return false;
            }
            ends[part] = codeSize;
            return true;
        }

        // static, as LANGUAGE.md wants what calls itself; open counts the ( , not and - that haven't ended
        private static boolean readLevel(Reader r, int level, int open) {
            if (level >= LEVEL_ONE) {
                return readOne(r, open);
            }
            if (level == LEVEL_NOT && r.token() == Text.NOT) {
                return readPrefixed(r, Text.NOT, LEVEL_NOT, open);
            }
            if (!readLevel(r, level + 1, open)) {
                return false;
            }
            int most = level == LEVEL_NOT ? 1 : TAPE;
            for (int i = 0; i < most && joins(level, r.token()); i++) {
                int sign = r.token();
                r.at++;
                if (!readLevel(r, level + 1, open)) {
                    return false;
                }
                r.add(sign);
            }
            return true;
        }

        private static boolean readOne(Reader r, int open) {
            int token = r.token();
            if (token == Text.MINUS) {
                return readPrefixed(r, Text.NEGATE, LEVEL_ONE, open);
            }
            if (token == OPENS) {
                if (open >= MOST_OPEN) {
                    return false;
                }
                r.at++;
                return readLevel(r, LEVEL_E, open + 1) && r.skip(CLOSES);
            }
            if (token < Text.MORE) {
                return false;
            }
            r.add(token);
            r.at++;
            return true;
        }

        private static boolean readPrefixed(Reader r, int word, int level, int open) {
            if (open >= MOST_OPEN) {
                return false;
            }
            r.at++;
            if (!readLevel(r, level, open + 1)) {
                return false;
            }
            r.add(word);
            return true;
        }

        private static boolean joins(int level, int token) {
            switch (level) {
                case LEVEL_E: return token == Text.OR;
                case LEVEL_AND: return token == Text.AND;
                case LEVEL_NOT: return token == Text.BELOW || token == Text.SAME;
                case LEVEL_SUM: return token == Text.PLUS || token == Text.MINUS;
                case LEVEL_TERM: return token == Text.TIMES;
                default: return false;
            }
        }

        /** Ends with TAPE_END, or with the first token that can't stand anywhere. */
        private void scan() {
            int place = 0;
            for (int i = 0; i <= TAPE; i++) {
                while (place < tapeSize && (tape[place] == ' ' || tape[place] == '\n')) {
                    place++;
                }
                places[i] = place;
                int end = endOfToken(place);
                tokens[i] = tokenBetween(place, end);
                if (tokens[i] == TAPE_END || tokens[i] == WRONG) {
                    return;
                }
                place = end;
            }
        }

        private boolean isLetter(int place) {
            return place < tapeSize && tape[place] >= 'a' && tape[place] <= 'z';
        }

        private boolean isDigit(int place) {
            return place < tapeSize && tape[place] >= '0' && tape[place] <= '9';
        }

        private int endOfToken(int place) {
            int end = place;
            if (isLetter(place)) {
                while (end < tapeSize && isLetter(end)) {
                    end++;
                }
            } else if (isDigit(place)) {
                while (end < tapeSize && isDigit(end)) {
                    end++;
                }
            } else if (place < tapeSize) {
                end++;
            }
            return end;
        }

        private int tokenBetween(int place, int end) {
            if (place >= tapeSize) {
                return TAPE_END;
            }
            if (isLetter(place)) {
                return wordBetween(place, end);
            }
            if (isDigit(place)) {
                return numberBetween(place, end);
            }
            return signOf(tape[place]);
        }

        private int numberBetween(int place, int end) {
            if (end - place > MOST_DIGITS) {
                return WRONG;
            }
            int number = 0;
            for (int i = place; i < end; i++) {
                number = 10 * number + tape[i] - '0';
            }
            return number;
        }

        private static int signOf(int sign) {
            switch (sign) {
                case '(': return OPENS;
                case ')': return CLOSES;
                case ';': return CLOSES_PART;
                case '+': return Text.PLUS;
                case '-': return Text.MINUS;
                case '*': return Text.TIMES;
                case '<': return Text.BELOW;
                case '=': return Text.SAME;
                default: return WRONG;
            }
        }

        private int wordBetween(int place, int end) {
            if (isWord("needs", place, end)) {
                return KEY_NEEDS;
            }
            if (isWord("takes", place, end)) {
                return KEY_TAKES;
            }
            if (isWord("judges", place, end)) {
                return KEY_JUDGES;
            }
            if (isWord("or", place, end)) {
                return Text.OR;
            }
            if (isWord("and", place, end)) {
                return Text.AND;
            }
            if (isWord("not", place, end)) {
                return Text.NOT;
            }
            if (isWord("hard", place, end)) {
                return Text.HARD;
            }
            if (isWord("things", place, end)) {
                return Text.THINGS;
            }
            if (isWord("mind", place, end)) {
                return Text.MIND;
            }
            if (isWord("lost", place, end)) {
                return Text.LOST;
            }
            if (isWord("day", place, end)) {
                return Text.DAY;
            }
            return isWord("more", place, end) ? Text.MORE : WRONG;
        }

        private boolean isWord(String word, int place, int end) {
            if (end - place != word.length()) {
                return false;
            }
            for (int i = 0; i < word.length(); i++) {
                if (word.charAt(i) != tape[place + i]) {
                    return false;
                }
            }
            return true;
        }
    }

    /** A row of numbers, or none; the room for the longest is made once. */
    private static final class Sheet {
        static final int MISSING = -1, BYTES = 0, SHORTS = 1, INTS = 2;

        final int[] cells = new int[CELLS];
        int sort = MISSING;
        int size;

        boolean isMissing() {
            return sort == MISSING;
        }

        void renew(int newSort, int newSize) {
            sort = newSort;
            size = Math.max(0, Math.min(CELLS, newSize));
            for (int i = 0; i < CELLS; i++) {
                cells[i] = 0;
            }
        }

        int cut(int v) {
            return sort == BYTES ? (byte) v : sort == SHORTS ? (short) v : v;
        }

        /** Whether n numbers from a place on all lie in it. */
        boolean holds(int from, int n) {
            return from >= 0 && n >= 0 && n <= size && from <= size - n;
        }
    }
}
