/** The boundaries that the document names in promises 34 to 40, of AN IMAGE and SHEETS, sentence by sentence. */
public final class EdgesHostTest {
    private static final Due due = new Due();
    private static final int MIN = Integer.MIN_VALUE, MAX = Integer.MAX_VALUE;

    public static void main(String[] args) {
        imageOfNothing();
        imageOfAll();
        imageKeepsBusy();
        imageOfTexts();
        sheetSizes();
        sheetIsNew();
        sheetIsMissing();
        cellPlaces();
        cellCuts();
        copyPlaces();
        copyAsTheyWere();
        copySorts();
        judgesByPlaces();
        judgesByOthers();
        judgesBySorts();
        taken();
        due.end();
    }

    // ---- promises 34 and 35

    private static void imageOfNothing() {
        due.promise(35, "\"STATE: there is none\"");
        JudgesByLoss x = new JudgesByLoss();
        due.is("a new object", x.back(), -3);
        x.judge(0, 1, 2);
        x.file(1, 0);
        due.is("again", x.back(), -3);
        due.is("JUDGES stay", x.count(0), 1);
        due.is("CASES stay", x.count(1), 1);
        due.promise(34, "no JUDGES");
        JudgesByLoss y = new JudgesByLoss();
        due.is("none", y.image(), 0);
        y.judge(0, 1, 2);
        y.file(1, 0);
        y.dawn(999);
        due.promise(35, "\"JUDGES that came since are none\"");
        due.is("none", y.back(), 0);
        due.is("JUDGES", y.count(0), 0);
        due.is("judge 0", y.told(0, 0), -5);
        due.is("CASES", y.count(1), 0);
        due.is("DAY", y.count(6), 0);
        due.is("the next JUDGE", y.judge(59, 3, 4), 0);
        due.is("KIND", y.told(0, 3), 5);
        due.is("the next CASE", y.file(2, 9), 0);
        due.is("back again", y.back(), 0);
    }

    private static void imageOfAll() {
        due.promise(34, "six JUDGES, eight CASES");
        JudgesByLoss x = Scenes.full();
        x.dawn(999);
        due.is("six", x.image(), 6);
        x.dawn(0);
        for (int p = 0; p < 6; p++) {
            x.put(p, 0, 0);
            x.put(p, 1, 99);
            x.put(p, 2, 99);
        }
        x.day();
        due.promise(35, "\"how many there are\"");
        due.is("six", x.back(), 6);
        for (int p = 0; p < 6; p++) {
            due.is("LOST of " + p, x.told(p, 0), 1 << p);
            due.is("MIND of " + p, x.told(p, 1), 10 * p);
            due.is("BUSY of " + p, x.told(p, 2), 0);
            due.is("KIND of " + p, x.told(p, 3), p);
        }
        for (int c = 0; c < 8; c++) {
            due.is("WAITED of " + c, x.paper(c, 2), 0);
            due.is("ABOUT of " + c, x.paper(c, 0), 1 << c);
            due.is("HARD of " + c, x.paper(c, 1), 9 * c);
        }
        due.is("DAY", x.count(6), 999);
        due.is("day() is refused again", x.day(), -3);
        due.is("no room for one more", x.judge(0, 0, 0), -4);
        due.is("no room for one more CASE", x.file(1, 0), -4);
        due.promise(34, "another IMAGE takes the place of the first");
        x.dawn(5);
        x.image();
        x.dawn(6);
        x.back();
        due.is("DAY", x.count(6), 5);
    }

    private static void imageKeepsBusy() {
        due.promise(34, "\"AN IMAGE keeps .. BUSY\", above 99, too");
        JudgesByLoss x = new JudgesByLoss();
        Due.readByFives(x, "needs 0;takes 99;judges 99;");
        x.force(1);
        x.judge(40, 1, 0);
        x.file(1, 0);
        x.hear(0, 0);
        x.image();
        x.put(0, 2, 0);
        x.put(0, 1, 0);
        x.force(0);
        x.back();
        due.is("BUSY", x.told(0, 2), 198);
        due.is("MIND", x.told(0, 1), 99);
        due.is("HEARD", x.count(2), 1);
        due.is("THE LAW", x.count(4), 1);
        x.file(1, 0);
        x.put(0, 2, 0);
        x.rob(0, 1);
        x.hear(0, 0);
        due.promise(34, "\"AN IMAGE keeps .. HEARD\"");
        due.is("one more", x.count(2), 2);
        x.back();
        due.is("as it was", x.count(2), 1);
        due.promise(34, "an IMAGE is of then, not of later");
        JudgesByLoss y = new JudgesByLoss();
        y.judge(0, 7, 9);
        y.file(3, 4);
        y.image();
        y.rob(0, 1023);
        y.day();
        y.hear(0, 0);
        y.back();
        due.is("LOST", y.told(0, 0), 7);
        y.rob(0, 1023);
        y.day();
        y.back();
        due.is("LOST, the second time", y.told(0, 0), 7);
        due.is("WAITED, the second time", y.paper(0, 2), 0);
    }

    private static void imageOfTexts() {
        due.promise(35, "\"All that it keeps\": not TEXTS, THE TAPE, SHEETS");
        JudgesByLoss x = new JudgesByLoss();
        x.image();
        Due.readByFives(x, "needs 7;takes 1;judges 1;");
        x.force(1);
        x.feed(2, 'x', 'x', 0, 0, 0);
        Due.write(x, 2, 5);
        x.back();
        due.is("TEXTS stay", x.count(3), 2);
        due.is("THE LAW is as it was", x.count(4), 0);
        due.is("THE TAPE stays", x.count(5), 2);
        due.is("SHEETS stay", x.tells(2), 0);
        due.is("the TEXT can be forced", x.force(1), 0);
    }

    // ---- promise 36

    private static void sheetSizes() {
        due.promise(36, "\"a row of n of a sort\", \"40 at most\"");
        JudgesByLoss x = new JudgesByLoss();
        int[] sizes = {0, 1, 20, 21, 39, 40};
        for (int sort = 0; sort < 3; sort++) {
            for (int size : sizes) {
                due.is(size + " of sort " + sort, x.sheet(0, sort, size), 1);
                due.is("the last place", x.cell(0, size - 1, 1), size == 0 ? -12 : 1);
                due.is("one further", x.cell(0, size, 1), -12);
            }
        }
        due.promise(36, "\"BAD: .. n above 40\", \"-14\"");
        int[] bad = {41, MAX};
        int[] below = {-1, MIN};
        for (int sort = 0; sort < 3; sort++) {
            for (int i = 0; i < 2; i++) {
                due.is(bad[i] + " of sort " + sort, x.sheet(0, sort, bad[i]), -2);
                due.is(below[i] + " of sort " + sort, x.sheet(0, sort, below[i]), -14);
            }
        }
        due.is("it is as it was", x.cell(0, 39, 1), 1);
        due.promise(36, "\"BAD: SHEET, sort\"");
        int[] sheets = {-1, 4, MIN, MAX};
        int[] sorts = {-2, 3, MIN, MAX};
        for (int i = 0; i < 4; i++) {
            due.is("SHEET " + sheets[i], x.sheet(sheets[i], 0, 1), -2);
            due.is("SHEET " + sheets[i] + ", missing", x.sheet(sheets[i], -1, 1), -2);
            due.is("sort " + sorts[i], x.sheet(0, sorts[i], 1), -2);
        }
        due.promise(36, "\"SHEETS 0 .. 3\"");
        for (int s = 0; s < 4; s++) {
            due.is("SHEET " + s, x.sheet(s, 2, 4 + s), 1);
        }
        for (int s = 0; s < 4; s++) {
            due.is("SHEET " + s + ", its last", x.cell(s, 3 + s, 1), 1);
            due.is("SHEET " + s + ", one further", x.cell(s, 4 + s, 1), -12);
        }
    }

    private static void sheetIsNew() {
        due.promise(36, "\"all 0\"");
        JudgesByLoss x = new JudgesByLoss();
        for (int sort = 0; sort < 3; sort++) {
            x.sheet(0, sort, 20);
            for (int i = 0; i < 20; i++) {
                x.cell(0, i, 5);
            }
            due.is("other than 0", x.tells(0), 0);
            due.is("anew", x.sheet(0, sort, 20), 1);
            due.is("all 0", x.tells(0), -1);
            x.cell(0, 19, 5);
            x.sheet(0, sort, 3);
            x.sheet(0, sort, 20);
            due.is("all 0, first shorter, then longer", x.tells(0), -1);
            x.cell(0, 19, 5);
            x.sheet(0, -1, 0);
            x.sheet(0, sort, 20);
            due.is("all 0, missing between", x.tells(0), -1);
        }
        due.promise(36, "another sort");
        x.sheet(1, 2, 1);
        x.cell(1, 0, 256);
        x.sheet(1, 0, 1);
        due.is("all 0", x.tells(1), -1);
        x.cell(1, 0, 256);
        due.is("of the new sort", x.tells(1), -1);
    }

    private static void sheetIsMissing() {
        due.promise(36, "\"missing (sort -1: n does not matter)\"");
        JudgesByLoss x = new JudgesByLoss();
        int[] any = {0, 1, 40, 41, -1, MIN, MAX};
        for (int n : any) {
            x.sheet(0, 2, 3);
            due.is("n " + n, x.sheet(0, -1, n), 1);
            due.is("n " + n + ", missing", x.cell(0, 0, 0), -11);
        }
        due.is("missing already", x.sheet(0, -1, 0), 1);
        due.is("others aren't", x.sheet(1, 2, 1) + x.cell(1, 0, 0), 2);
    }

    // ---- promise 37

    private static void cellPlaces() {
        due.promise(37, "\"-12\"");
        JudgesByLoss x = new JudgesByLoss();
        x.sheet(0, 2, 40);
        x.sheet(1, 2, 0);
        int[] bad = {-1, 40, 41, MIN, MAX};
        for (int i : bad) {
            due.is("place " + i, x.cell(0, i, 1), -12);
            due.is("place " + i + " of none", x.cell(1, i, 1), -12);
        }
        due.is("place 0 of none", x.cell(1, 0, 1), -12);
        due.is("place 0", x.cell(0, 0, 1), 1);
        due.is("place 39", x.cell(0, 39, 1), 1);
        due.promise(37, "\"BAD: SHEET\", \"-11\"");
        int[] sheets = {-1, 4, MIN, MAX};
        for (int s : sheets) {
            due.is("SHEET " + s, x.cell(s, 0, 1), -2);
        }
        due.is("missing", x.cell(2, 0, 1), -11);
        due.is("missing, 3", x.cell(3, 39, 1), -11);
        due.promise(37, "just that number");
        x.sheet(2, 2, 3);
        x.cell(2, 1, 7);
        due.is("places 0 .. 2 are a JUDGE's", x.judgesBy(2, 2, 0, 1), 1);
        due.is("place 0", 10 * x.told(0, 3) + x.told(0, 4), 0);
        due.is("place 1", x.told(0, 0), 7);
        due.is("place 2", x.told(0, 1), 0);
    }

    /** What a number becomes in a sheet of a sort, told as LOST; -2 if it isn't 0 .. 1023 there. */
    private static int become(int sort, int v) {
        JudgesByLoss x = new JudgesByLoss();
        x.sheet(0, sort, 3);
        x.cell(0, 1, v);
        return x.judgesBy(0, sort, 0, 1) == 1 ? x.told(0, 0) : -2;
    }

    private static void cellCuts() {
        due.promise(37, "\"of bytes .. its lowest 8 .. bits\"");
        int[][] bytes = {{0, 0}, {1, 1}, {127, 127}, {256, 0}, {257, 1}, {383, 127}, {-256, 0}, {-255, 1}, {-129, 127},
            {MIN, 0}, {MIN + 5, 5}, {0x7fffff05, 5}};
        for (int[] pair : bytes) {
            due.is("a byte of " + pair[0], become(0, pair[0]), pair[1]);
        }
        due.promise(37, "bytes carry a sign");
        int[] belowBytes = {128, 255, -1, -128, 511, MAX};
        for (int v : belowBytes) {
            due.is("a byte of " + v, become(0, v), -2);
        }
        due.promise(37, "\"shorts its lowest .. 16 bits\"");
        int[][] shorts = {{0, 0}, {255, 255}, {256, 256}, {1023, 1023}, {65536, 0}, {65537, 1}, {66559, 1023},
            {-65536, 0}, {-65535, 1}, {MIN, 0}, {MIN + 1000, 1000}};
        for (int[] pair : shorts) {
            due.is("a short of " + pair[0], become(1, pair[0]), pair[1]);
        }
        int[] belowShorts = {1024, 32767, 32768, 65535, -1, MAX};
        for (int v : belowShorts) {
            due.is("a short of " + v, become(1, v), -2);
        }
        due.promise(37, "ints are as they are");
        int[][] ints = {{0, 0}, {1023, 1023}, {256, 256}, {1024, -2}, {65536, -2}, {-1, -2}, {MIN, -2}, {MAX, -2}};
        for (int[] pair : ints) {
            due.is("an int of " + pair[0], become(2, pair[0]), pair[1]);
        }
    }

    // ---- promise 38

    private static JudgesByLoss rows() {
        JudgesByLoss x = new JudgesByLoss();
        Due.write(x, 0, 1, 2, 3, 4, 5, 6);
        Due.write(x, 1, 0, 0, 0);
        return x;
    }

    /** The three numbers of a sheet of ints from a place on, as a number. */
    private static int three(JudgesByLoss x, int s, int from) {
        int p = x.count(0);
        x.judgesBy(s, 2, from, 1);
        return 10000 * (10 * x.told(p, 3) + x.told(p, 4)) + 100 * x.told(p, 0) + x.told(p, 1);
    }

    private static void copyPlaces() {
        due.promise(38, "\"n numbers of a SHEET, from i on\": the last that fit");
        JudgesByLoss x = rows();
        due.is("all that has room", x.copy(0, 3, 1, 0, 3), 3);
        due.is("they came", three(x, 1, 0), 40506);
        due.is("one to the last place", x.copy(0, 0, 1, 2, 1), 1);
        due.is("it came", three(x, 1, 0), 40501);
        due.is("the last one to the first", x.copy(0, 5, 1, 0, 1), 1);
        due.is("it came", three(x, 1, 0), 60501);
        due.promise(38, "\"-12\"");
        int[][] bad = {{-1, 0, 1}, {0, -1, 1}, {6, 0, 1}, {0, 3, 1}, {4, 0, 3}, {0, 1, 3}, {0, 0, 4}, {5, 0, 2},
            {7, 0, 0}, {0, 4, 0}, {-1, 0, 0}, {0, -1, 0}, {MAX, 0, 1}, {0, MAX, 1}, {MIN, 0, 1}, {0, MIN, 1},
            {MAX, 0, 0}, {MAX, MAX, MAX}, {1, 0, MAX}, {0, 1, MAX}, {0, 0, MAX}};
        for (int[] v : bad) {
            due.is("from " + v[0] + " to " + v[1] + ", " + v[2], x.copy(0, v[0], 1, v[1], v[2]), -12);
        }
        due.promise(38, "\"n below 0, too\"");
        due.is("-1", x.copy(0, 0, 1, 0, -1), -12);
        due.is("-1, from the end", x.copy(0, 6, 1, 3, -1), -12);
        due.is("the least int", x.copy(0, 0, 1, 0, MIN), -12);
        due.is("nothing came", three(x, 1, 0), 60501);
        due.promise(38, "none of them");
        due.is("from the first", x.copy(0, 0, 1, 0, 0), 0);
        due.is("from the end to the end", x.copy(0, 6, 1, 3, 0), 0);
        x.sheet(2, 2, 0);
        x.sheet(3, 2, 0);
        due.is("of none to none", x.copy(2, 0, 3, 0, 0), 0);
        due.is("one of none", x.copy(2, 0, 1, 0, 1), -12);
        due.is("one to none", x.copy(1, 0, 2, 0, 1), -12);
        due.is("nothing came", three(x, 1, 0), 60501);
        due.promise(38, "forty");
        JudgesByLoss y = new JudgesByLoss();
        y.sheet(0, 2, 40);
        y.sheet(1, 2, 40);
        y.cell(0, 37, 1);
        y.cell(0, 38, 2);
        y.cell(0, 39, 3);
        due.is("all", y.copy(0, 0, 1, 0, 40), 40);
        due.is("the last three", three(y, 1, 37), 10203);
        due.is("41", y.copy(0, 0, 1, 0, 41), -12);
    }

    private static void copyAsTheyWere() {
        due.promise(38, "\"(or its own) place j (as they were)\"");
        JudgesByLoss x = rows();
        due.is("its own, one further", x.copy(0, 0, 0, 1, 5), 5);
        due.is("1 1 2", three(x, 0, 0), 10102);
        due.is("3 4 5", three(x, 0, 3), 30405);
        JudgesByLoss y = rows();
        due.is("its own, one ahead", y.copy(0, 1, 0, 0, 5), 5);
        due.is("2 3 4", three(y, 0, 0), 20304);
        due.is("5 6 6", three(y, 0, 3), 50606);
        JudgesByLoss z = rows();
        due.is("its own, the same place", z.copy(0, 0, 0, 0, 6), 6);
        due.is("1 2 3", three(z, 0, 0), 10203);
        due.is("past its own end", z.copy(0, 0, 0, 1, 6), -12);
        due.is("1 2 3 yet", three(z, 0, 0), 10203);
        due.is("4 5 6 yet", three(z, 0, 3), 40506);
        due.promise(38, "what is copied stays");
        JudgesByLoss w = rows();
        w.copy(0, 0, 1, 0, 3);
        w.cell(1, 0, 9);
        due.is("1 2 3", three(w, 0, 0), 10203);
        due.is("9 2 3", three(w, 1, 0), 90203);
    }

    private static void copySorts() {
        due.promise(38, "\"-13: unlike sorts\", of each two");
        JudgesByLoss x = new JudgesByLoss();
        for (int sort = 0; sort < 3; sort++) {
            x.sheet(sort, sort, 2);
        }
        for (int s = 0; s < 3; s++) {
            for (int other = 0; other < 3; other++) {
                due.is(s + " to " + other, x.copy(s, 0, other, 0, 1), s == other ? 1 : -13);
                due.is(s + " to " + other + ", none", x.copy(s, 0, other, 0, 0), s == other ? 0 : -13);
            }
        }
        due.promise(38, "\"-11\"");
        for (int s = 0; s < 3; s++) {
            due.is(s + " to a missing one", x.copy(s, 0, 3, 0, 1), -11);
            due.is("a missing one to " + s, x.copy(3, 0, s, 0, 1), -11);
        }
        due.is("a missing one to its own", x.copy(3, 0, 3, 0, 0), -11);
        due.promise(38, "\"BAD: SHEETS\"");
        int[] sheets = {-1, 4, MIN, MAX};
        for (int s : sheets) {
            due.is("SHEET " + s, x.copy(s, 0, 0, 0, 1), -2);
            due.is("to SHEET " + s, x.copy(0, 0, s, 0, 1), -2);
        }
    }

    // ---- promise 39

    private static void judgesByPlaces() {
        due.promise(39, "\"from a place on, three by three\", \"n of them (0 .. 6)\"");
        JudgesByLoss x = new JudgesByLoss();
        x.sheet(0, 2, 40);
        for (int i = 0; i < 40; i++) {
            x.cell(0, i, i);
        }
        x.image();
        due.is("0", x.judgesBy(0, 2, 0, 0), 0);
        due.is("none came", x.count(0), 0);
        due.is("6", x.judgesBy(0, 2, 0, 6), 6);
        due.is("the sixth", 10 * x.told(5, 3) + x.told(5, 4), 15);
        due.is("its LOST", x.told(5, 0), 16);
        due.is("its MIND", x.told(5, 1), 17);
        x.back();
        due.is("the last six", x.judgesBy(0, 2, 22, 6), 6);
        due.is("the sixth, MIND", x.told(5, 1), 39);
        x.back();
        due.is("the last one", x.judgesBy(0, 2, 37, 1), 1);
        due.is("its MIND", x.told(0, 1), 39);
        x.back();
        due.promise(39, "\"-12: what stood ahead came\"");
        due.is("one place too far", x.judgesBy(0, 2, 23, 6), -12);
        due.is("five came", x.count(0), 5);
        due.is("the fifth, MIND", x.told(4, 1), 37);
        x.back();
        due.is("just two places are left", x.judgesBy(0, 2, 38, 1), -12);
        due.is("just one place is left", x.judgesBy(0, 2, 39, 1), -12);
        due.is("none is left", x.judgesBy(0, 2, 40, 1), -12);
        int[] far = {-1, -3, 41, MIN, MAX, MAX - 2};
        for (int from : far) {
            due.is("from " + from, x.judgesBy(0, 2, from, 6), -12);
        }
        due.is("none came", x.count(0), 0);
        due.promise(39, "none of them: no place is outside");
        due.is("from the end", x.judgesBy(0, 2, 40, 0), 0);
        due.is("from far", x.judgesBy(0, 2, MAX, 0), 0);
        due.is("from below", x.judgesBy(0, 2, -1, 0), 0);
        x.sheet(1, 2, 0);
        due.is("of a row of none", x.judgesBy(1, 2, 0, 0), 0);
        due.is("one of a row of none", x.judgesBy(1, 2, 0, 1), -12);
        due.promise(39, "\"BAD: SHEET, sort, n\"");
        int[] sheets = {-1, 4, MIN, MAX};
        int[] sorts = {-1, 3, MIN, MAX};
        int[] many = {-1, 7, MIN, MAX};
        for (int i = 0; i < 4; i++) {
            due.is("SHEET " + sheets[i], x.judgesBy(sheets[i], 2, 0, 1), -2);
            due.is("sort " + sorts[i], x.judgesBy(0, sorts[i], 0, 1), -2);
            due.is("n " + many[i], x.judgesBy(0, 2, 0, many[i]), -2);
        }
    }

    private static void judgesByOthers() {
        due.promise(39, "\"how many came (others are left out)\"");
        JudgesByLoss x = new JudgesByLoss();
        Due.write(x, 0, 60, 0, 0, 0, 1024, 0, 0, 0, 100, -1, 0, 0, 0, -1, 0, 0, 0, -1);
        due.is("all six are BAD", x.judgesBy(0, 2, 0, 6), 0);
        due.is("none came", x.count(0), 0);
        Due.write(x, 1, 59, 1023, 99, 60, 1, 1, 0, 0, 0);
        due.is("the one between is BAD", x.judgesBy(1, 2, 0, 3), 2);
        due.is("two came", x.count(0), 2);
        due.is("the second is the third told", x.told(1, 0), 0);
        due.promise(39, "others that there is no room for");
        due.is("two more", x.judgesBy(1, 2, 0, 3), 2);
        due.is("one more", x.judge(7, 7, 7), 4);
        due.is("room for just one", x.judgesBy(1, 2, 0, 3), 1);
        due.is("it is the first told", x.told(5, 0), 1023);
        due.is("no room", x.judgesBy(1, 2, 0, 3), 0);
        due.is("no room, past the end", x.judgesBy(1, 2, 0, 4), -12);
        due.is("six", x.count(0), 6);
        due.promise(39, "one left out, and then a place outside");
        JudgesByLoss y = new JudgesByLoss();
        Due.write(y, 0, 60, 0, 0, 1, 2, 3, 4, 5);
        due.is("the second came", y.judgesBy(0, 2, 0, 3), -12);
        due.is("one", y.count(0), 1);
        due.is("its LOST", y.told(0, 0), 2);
        due.promise(39, "\"as of judge()\": BUSY 0");
        due.is("BUSY", y.told(0, 2), 0);
    }

    private static void judgesBySorts() {
        due.promise(39, "\"-13\", of each two");
        JudgesByLoss x = new JudgesByLoss();
        for (int sort = 0; sort < 3; sort++) {
            x.sheet(sort, sort, 3);
        }
        for (int s = 0; s < 3; s++) {
            for (int sort = 0; sort < 3; sort++) {
                due.is("SHEET " + s + " for " + sort, x.judgesBy(s, sort, 0, 1), s == sort ? 1 : -13);
            }
        }
        due.promise(39, "\"-11\"");
        for (int sort = 0; sort < 3; sort++) {
            due.is("missing, for " + sort, x.judgesBy(3, sort, 0, 0), -11);
        }
    }

    // ---- promise 40

    private static void taken() {
        due.promise(40, "\"0 .. 5 JUDGES, 6 .. 13 CASES\", the first and the last");
        JudgesByLoss x = Scenes.full();
        due.is("judge 0", x.taken(0, 0), 0);
        due.is("judge 5", x.taken(5, 5), 5);
        due.is("case 0", x.taken(6, 6), 1);
        due.is("case 7", x.taken(13, 6), 128);
        due.promise(40, "\"-12: i\"");
        int[] places = {-1, 14, MIN, MAX};
        int[] kinds = {-1, 7, MIN, MAX};
        for (int i = 0; i < 4; i++) {
            due.is("place " + places[i], x.taken(places[i], 0), -12);
            due.is("kind " + kinds[i], x.taken(0, kinds[i]), -2);
        }
        due.promise(40, "\"a JUDGE of that KIND (also of one that is one)\", each for each");
        boolean[][] isOne = {
            {true, false, false, false, false, false, false},
            {true, true, false, false, false, false, false},
            {true, false, true, false, false, false, false},
            {true, true, false, true, false, false, false},
            {true, false, true, false, true, false, false},
            {true, false, false, false, false, true, false}};
        for (int kind = 0; kind < 6; kind++) {
            for (int as = 0; as < 7; as++) {
                due.is("KIND " + kind + " for " + as, x.taken(kind, as), isOne[kind][as] ? kind : -13);
            }
        }
        due.promise(40, "\"-13\", a CASE for a JUDGE");
        for (int as = 0; as < 6; as++) {
            due.is("for " + as, x.taken(6, as), -13);
        }
        due.promise(40, "\"-11: none such\"");
        JudgesByLoss y = new JudgesByLoss();
        for (int i = 0; i < 14; i++) {
            due.is("place " + i + " for 0", y.taken(i, 0), -11);
            due.is("place " + i + " for 6", y.taken(i, 6), -11);
        }
        y.judge(0, 1, 0);
        y.file(1, 0);
        y.hear(0, 0);
        due.is("a CASE that was heard", y.taken(6, 6), -11);
        due.is("the JUDGE", y.taken(0, 0), 0);
        due.is("the next", y.taken(1, 0), -11);
        due.promise(40, "\"ABOUT (bits)\", the least, the greatest");
        y.file(1023, 0);
        due.is("all THINGS", y.taken(6, 6), 1023);
    }
}
