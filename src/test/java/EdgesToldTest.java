/** The boundaries that the document names in promises 25 to 33, and of BURGLARS, sentence by sentence. */
public final class EdgesToldTest {
    private static final Due due = new Due();
    private static final int MIN = Integer.MIN_VALUE, MAX = Integer.MAX_VALUE;

    public static void main(String[] args) {
        sizes();
        numbersThatAreOtherwise();
        refusedSheets();
        kinds();
        mores();
        turned();
        minds();
        busy();
        dropped();
        laws();
        film();
        past999();
        drawnLots();
        drawnDays();
        drawnNumbers();
        odds();
        oddsPast99999();
        due.end();
    }

    /** The law needs what is hard, takes 1, judges 0. */
    private static JudgesByLoss lawful() {
        JudgesByLoss x = new JudgesByLoss();
        Due.readByFives(x, "needs hard;takes 1;judges 0;");
        x.force(1);
        return x;
    }

    /** Sheet 0, of ints, tells so many 0 and then the others. */
    private static void tell(JudgesByLoss x, int zeros, int... behind) {
        x.sheet(0, 2, zeros + behind.length);
        for (int i = 0; i < behind.length; i++) {
            x.cell(0, zeros + i, behind[i]);
        }
    }

    // ---- promise 25

    private static void sizes() {
        due.promise(25, "\"A SHEET tells how many CASES are heard .. (20 at most)\"");
        JudgesByLoss x = new JudgesByLoss();
        int[] sizes = {0, 1, 19, 20, 21, 39, 40};
        for (int size : sizes) {
            for (int sort = 0; sort < 3; sort++) {
                x.sheet(0, sort, size);
                due.is(size + " of sort " + sort, x.tells(0), size <= 20 ? -1 : -2);
            }
        }
        due.promise(25, "\"the first number (from 0) that is otherwise\"");
        tell(x, 0, 1);
        due.is("the first", x.tells(0), 0);
        tell(x, 19, 1);
        due.is("the last of twenty", x.tells(0), 19);
        tell(x, 18, 1, 1);
        due.is("two are, the first", x.tells(0), 18);
        due.promise(25, "\"in the 1st, 2nd, .. DAY from now\"");
        JudgesByLoss y = lawful();
        y.judge(0, 1, 0);
        y.file(1, 0);
        y.put(0, 2, 20);
        tell(y, 19, 1);
        due.is("in the 20th", y.tells(0), -1);
        y.put(0, 2, 19);
        due.is("in the 19th", y.tells(0), 18);
        y.put(0, 2, 21);
        due.is("not by the 20th", y.tells(0), 19);
    }

    private static void numbersThatAreOtherwise() {
        due.promise(25, "numbers that no DAY can be of");
        JudgesByLoss x = new JudgesByLoss();
        int[] numbers = {-1, 9, 256, 65536, MIN, MAX};
        for (int v : numbers) {
            tell(x, 0, v);
            due.is("an int of " + v, x.tells(0), 0);
        }
        int[] bytes = {0, 256, -256, 1, -1, 255, 128};
        for (int v : bytes) {
            x.sheet(0, 0, 1);
            x.cell(0, 0, v);
            due.is("a byte of " + v, x.tells(0), v % 256 == 0 ? -1 : 0);
        }
        int[] shorts = {0, 65536, -65536, 1, 256, -1, 65535, 32768};
        for (int v : shorts) {
            x.sheet(0, 1, 1);
            x.cell(0, 0, v);
            due.is("a short of " + v, x.tells(0), v % 65536 == 0 ? -1 : 0);
        }
        due.promise(25, "six in a DAY");
        JudgesByLoss y = lawful();
        for (int p = 0; p < 6; p++) {
            y.judge(0, 1023, 99);
            y.file(1, 0);
        }
        y.file(2, 99);
        y.file(4, 99);
        tell(y, 0, 6, 2, 0);
        due.is("and two", y.tells(0), -1);
        due.promise(25, "there are no JUDGES, no CASES");
        JudgesByLoss z = new JudgesByLoss();
        tell(z, 20);
        due.is("twenty DAYS of 0", z.tells(0), -1);
    }

    private static void refusedSheets() {
        JudgesByLoss x = lawful();
        x.judge(0, 1, 0);
        int[] none = {-1, 4, MIN, MAX};
        for (int s : none) {
            due.promise(25, "\"BAD: SHEET\", also of 26 to 31");
            due.is("tells(" + s + ")", x.tells(s), -2);
            due.is("kinds(" + s + ")", x.kinds(s, 0, 0), -2);
            due.is("turned(" + s + ")", x.turned(s, 0), -2);
            due.is("states(" + s + ")", x.states(s, 0, 1, 0), -2);
            due.is("dropped(" + s + ")", x.dropped(s), -2);
            due.is("laws(" + s + ")", x.laws(s), -2);
            due.is("film(" + s + ")", x.film(s, 1), -2);
        }
        for (int s = 0; s < 4; s++) {
            due.promise(25, "\"-11\", also of 26 to 30");
            due.is("tells(" + s + ")", x.tells(s), -11);
            due.is("kinds(" + s + ")", x.kinds(s, 0, 0), -11);
            due.is("turned(" + s + ")", x.turned(s, 0), -11);
            due.is("states(" + s + ")", x.states(s, 0, 1, 0), -11);
            due.is("dropped(" + s + ")", x.dropped(s), -11);
            due.is("laws(" + s + ")", x.laws(s), -11);
        }
        int[] sizes = {20, 21, 40};
        for (int size : sizes) {
            due.promise(25, "\"BAD: it tells more than 20\", also of 26 to 30");
            x.sheet(3, 0, size);
            boolean tells = size == 20;
            due.is("tells", x.tells(3), tells ? -1 : -2);
            due.is("kinds", x.kinds(3, 0, 0), tells ? 63 : -2);
            due.is("turned", x.turned(3, 0), tells ? 1023 : -2);
            due.is("states", x.states(3, 0, 2, 0), tells ? 100 : -2);
            due.is("dropped", x.dropped(3), tells ? 0 : -2);
            due.is("laws", x.laws(3), tells ? 3 : -2);
        }
        x.sheet(3, 0, 0);
        int[] nobody = {-1, 1, 6, MIN, MAX};
        for (int p : nobody) {
            due.promise(26, "\"-5: none such\", also of 27, 28");
            due.is("kinds of " + p, x.kinds(3, p, 0), -5);
            due.is("turned of " + p, x.turned(3, p), -5);
            due.is("states of " + p, x.states(3, p, 1, 0), -5);
        }
        int[] bad = {-1, 2, MIN, MAX};
        for (int v : bad) {
            due.promise(26, "\"-7: sort\"");
            due.is("sort " + v, x.kinds(3, 0, v), -7);
            due.promise(28, "\"-7: sort, what\"");
            due.is("what " + v, x.states(3, 0, 1, v), -7);
        }
        int[] sorts = {-1, 0, 3, MIN, MAX};
        for (int sort : sorts) {
            due.is("sort " + sort, x.states(3, 0, sort, 0), -7);
        }
    }

    // ---- promises 26 to 30

    private static void kinds() {
        due.promise(26, "\"KINDS (sort 0; bits 0 .. 5)\", all, none, each");
        JudgesByLoss x = lawful();
        x.judge(4, 1, 5);
        tell(x, 20);
        due.is("no CASES: all", x.kinds(0, 0, 0), 63);
        tell(x, 0, 1);
        due.is("no CASES: none", x.kinds(0, 0, 0), 0);
        x.sheet(0, 2, 0);
        due.is("nothing is told: all", x.kinds(0, 0, 0), 63);
        // MORE 4, MIND 5, DAY 0, THING 0 LOST
        x.file(1, 5);
        tell(x, 0, 1);
        due.is("on DAY 0: JUDGE, YOUNG", x.kinds(0, 0, 0), 3);
        tell(x, 4, 1);
        due.is("on DAY 4: WIDOW, OLD", x.kinds(0, 0, 0), 4 + 32);
        x.put(0, 1, 10);
        due.is("on DAY 4, MIND is twice as much: APPEAL, too", x.kinds(0, 0, 0), 4 + 16 + 32);
        tell(x, 20);
        due.is("never: LUCKY", x.kinds(0, 0, 0), 8);
        x.put(0, 1, 4);
        due.is("never, MIND is too little: all but OLD", x.kinds(0, 0, 0), 31);
        JudgesByLoss y = lawful();
        y.judge(1, 0, 0);
        y.file(2, 9);
        tell(y, 0, 1);
        due.is("just THING MORE: LUCKY alone", y.kinds(0, 0, 0), 8);
    }

    private static void mores() {
        due.promise(26, "\"MORE (1; bits 0 .. 9)\", all, none, each");
        JudgesByLoss x = lawful();
        x.judge(25, 1, 0);
        tell(x, 20);
        due.is("no CASES: all", x.kinds(0, 0, 1), 1023);
        tell(x, 0, 1);
        due.is("no CASES: none", x.kinds(0, 0, 1), 0);
        x.file(1, 0);
        for (int more = 0; more < 10; more++) {
            tell(x, more, 1);
            due.is("a WIDOW, on DAY " + more, x.kinds(0, 0, 1), 1 << more);
        }
        tell(x, 10, 1);
        due.is("a WIDOW, on DAY 10", x.kinds(0, 0, 1), 0);
        JudgesByLoss y = lawful();
        y.judge(50, 0, 0);
        y.file(1, 99);
        for (int more = 0; more < 7; more++) {
            tell(y, more, 1);
            due.is("an OLD, on DAY " + more, y.kinds(0, 0, 1), 1 << more);
        }
        tell(y, 20);
        due.is("an OLD, never", y.kinds(0, 0, 1), 128 + 256 + 512);
        JudgesByLoss z = lawful();
        z.judge(30, 0, 0);
        z.file(512, 99);
        tell(z, 0, 1);
        due.is("a LUCKY, THING 9", z.kinds(0, 0, 1), 512);
        z.file(1, 99);
        tell(z, 0, 1);
        due.is("a LUCKY, THING 0 or 9", z.kinds(0, 0, 1), 513);
    }

    private static void turned() {
        due.promise(27, "\"THINGS (bits)\", all, none, the least, the greatest");
        JudgesByLoss x = lawful();
        x.judge(0, 0, 0);
        tell(x, 20);
        due.is("no CASES: all", x.turned(0, 0), 1023);
        tell(x, 0, 1);
        due.is("no CASES: none", x.turned(0, 0), 0);
        x.file(512, 0);
        due.is("were it LOST, the greatest", x.turned(0, 0), 512);
        x.put(0, 0, 512);
        due.is("all but the greatest", x.turned(0, 0), 511);
        tell(x, 1);
        due.is("were it not LOST, the greatest", x.turned(0, 0), 512);
        JudgesByLoss y = lawful();
        y.judge(0, 0, 0);
        y.file(1, 0);
        tell(y, 0, 1);
        due.is("were it LOST, the least", y.turned(0, 0), 1);
        y.put(0, 0, 1);
        tell(y, 1);
        due.is("were it not LOST, the least", y.turned(0, 0), 1);
        due.promise(27, "\"just that one\"");
        JudgesByLoss z = lawful();
        z.judge(0, 0, 0);
        z.file(3, 0);
        tell(z, 0, 1);
        due.is("two would be wanted", z.turned(0, 0), 0);
    }

    private static void states(JudgesByLoss x, int sort, String what, int howMany, int least) {
        due.is(what + ", how many", x.states(0, 0, sort, 0), howMany);
        due.is(what + ", the least", x.states(0, 0, sort, 1), least);
    }

    private static void minds() {
        due.promise(28, "\"MIND (sort 1 .. 0 .. 99)\": how many, the least, -1: none");
        JudgesByLoss x = lawful();
        x.judge(0, 1, 50);
        tell(x, 1);
        states(x, 1, "no CASES, nothing heard", 100, 0);
        tell(x, 0, 1);
        states(x, 1, "no CASES, one heard", 0, -1);
        x.file(1, 99);
        states(x, 1, "99 alone", 1, 99);
        tell(x, 1);
        states(x, 1, "all but 99", 99, 0);
        JudgesByLoss y = lawful();
        y.judge(0, 1, 50);
        y.file(1, 1);
        tell(y, 1);
        states(y, 1, "0 alone", 1, 0);
        tell(y, 0, 1);
        states(y, 1, "all but 0", 99, 1);
        y.put(0, 2, 2);
        states(y, 1, "BUSY", 0, -1);
    }

    private static void busy() {
        due.promise(28, "\"BUSY (2; 0 .. 99 each)\": how many, the least, -1: none");
        JudgesByLoss x = lawful();
        x.judge(0, 1, 0);
        tell(x, 1);
        states(x, 2, "no CASES, nothing heard", 100, 0);
        tell(x, 0, 1);
        states(x, 2, "no CASES, one heard", 0, -1);
        x.file(1, 0);
        states(x, 2, "in the 1st DAY", 2, 0);
        tell(x, 1, 1);
        states(x, 2, "in the 2nd DAY", 1, 2);
        tell(x, 19, 1);
        states(x, 2, "in the 20th DAY", 1, 20);
        tell(x, 20);
        states(x, 2, "in none of twenty", 79, 21);
        tell(x, 1);
        states(x, 2, "not in the 1st", 98, 2);
        x.put(0, 2, 50);
        states(x, 2, "though BUSY for 50", 98, 2);
    }

    private static void dropped() {
        due.promise(29, "\"CASES (bits)\", all, none, the first, the last");
        JudgesByLoss x = lawful();
        x.judge(0, 0, 0);
        tell(x, 1);
        due.is("none is there", x.dropped(0), 0);
        for (int c = 0; c < 8; c++) {
            x.file(1 << c, 0);
        }
        due.is("all", x.dropped(0), 255);
        tell(x, 0, 1);
        due.is("none", x.dropped(0), 0);
        x.put(0, 0, 129);
        tell(x, 0, 1, 0);
        due.is("the first or the last", x.dropped(0), 129);
        tell(x, 0, 1, 1);
        due.is("all but the first and the last", x.dropped(0), 126);
        x.put(0, 0, 128);
        tell(x, 2);
        due.is("the last", x.dropped(0), 128);
        x.put(0, 0, 1);
        due.is("the first", x.dropped(0), 1);
        due.promise(29, "one that isn't there");
        x.hear(0, 0);
        due.is("isn't told", x.dropped(0), 254);
    }

    private static void laws() {
        due.promise(30, "\"TEXTS (bits)\", all, none, the first, the last");
        JudgesByLoss x = new JudgesByLoss();
        x.judge(0, 1, 5);
        x.file(1, 5);
        tell(x, 0, 1);
        due.is("the only one", x.laws(0), 1);
        tell(x, 1);
        due.is("none", x.laws(0), 0);
        for (int t = 1; t < 6; t++) {
            Due.readByFives(x, "needs " + (t + 1) + ";takes 1;judges 1;");
        }
        due.is("the last, which needs 6", x.laws(0), 32);
        tell(x, 0, 1);
        due.is("all but the last", x.laws(0), 31);
        x.put(0, 1, 6);
        due.is("all", x.laws(0), 63);
        tell(x, 1);
        due.is("none of six", x.laws(0), 0);
        x.put(0, 1, 4);
        tell(x, 0, 1);
        due.is("those that need 4 or less", x.laws(0), 2 + 4 + 8);
        x.force(5);
        due.is("whichever is THE LAW", x.laws(0), 2 + 4 + 8);
    }

    // ---- promise 31

    private static void film() {
        due.promise(31, "\"the 1st, .., nth DAY (0 .. 20; bytes)\"");
        JudgesByLoss x = lawful();
        x.judge(0, 1, 0);
        x.file(1, 0);
        x.put(0, 2, 20);
        Due.write(x, 0, 7, 7, 7);
        due.is("0 DAYS", x.film(0, 0), 0);
        due.is("no numbers", x.cell(0, 0, 0), -12);
        due.is("1 DAY", x.film(0, 1), 1);
        due.is("one number", x.cell(0, 1, 0), -12);
        due.is("20 DAYS", x.film(0, 20), 20);
        due.is("twenty numbers", x.cell(0, 20, 0), -12);
        tell(x, 19, 1);
        due.is("the 20th", x.tells(0), -1);
        x.film(1, 20);
        x.sheet(2, 0, 20);
        due.is("they are bytes", x.copy(1, 0, 2, 0, 20), 20);
        due.is("the same", x.tells(2), -1);
        due.promise(31, "a SHEET that was longer, all numbers are new");
        x.sheet(3, 0, 40);
        for (int i = 0; i < 40; i++) {
            x.cell(3, i, 5);
        }
        due.is("2 DAYS", x.film(3, 2), 2);
        due.is("they are 0", x.tells(3), -1);
        x.film(3, 20);
        due.is("and so are the others", x.tells(3), -1);
        due.promise(31, "\"-7: n\"");
        int[] bad = {-1, 21, MIN, MAX};
        for (int n : bad) {
            due.is("n " + n, x.film(3, n), -7);
        }
        due.is("it is as it was", x.cell(3, 19, 0), 1);
        due.promise(31, "\"in thought\": just the SHEET becomes so");
        due.is("DAY", x.count(6), 0);
        due.is("CASES", x.count(1), 1);
        due.is("BUSY", x.told(0, 2), 20);
    }

    private static void past999() {
        JudgesByLoss x = new JudgesByLoss();
        x.dawn(999);
        x.judge(56, 0, 0);
        x.file(1, 0);
        due.promise(25, "\"in thought it may pass 999\"");
        tell(x, 1, 1, 0);
        due.is("tells: DAY 1000 is 6 modulo 7", x.tells(0), -1);
        due.promise(26, "\"in thought it may pass 999\"");
        due.is("kinds", x.kinds(0, 0, 1), 64);
        due.promise(30, "\"in thought it may pass 999\"");
        due.is("laws", x.laws(0), 1);
        due.promise(31, "\"in thought it may pass 999\"");
        due.is("film", x.film(1, 3), 3);
        due.is("tells", x.tells(1), -1);
        x.cell(1, 1, 0);
        due.is("the second was 1", x.tells(1), 1);
        due.promise(32, "\"in thought it may pass 999\"");
        due.is("drawn", x.drawn(0, 0), 1);
        due.promise(20, "\"in thought it may pass 999\"");
        due.is("burglary, how many", x.burglary(2, 1), 1);
        due.is("DAY stays", x.count(6), 999);
    }

    // ---- promises 32 and 33

    /** One JUDGE of so many who isn't BUSY, and minds; and one CASE about a THING. */
    private static JudgesByLoss one(int judges, int free, int thing) {
        JudgesByLoss x = lawful();
        for (int p = 0; p < judges; p++) {
            x.judge(0, 0, 99);
            x.put(p, 2, p == free ? 0 : 99);
        }
        x.file(1 << thing, 0);
        return x;
    }

    private static void drawnLots() {
        // LOTS modulo 6 and 10 by SEED 0: 1 4, 0 7, 1 3, 5 5, 5 1, 1 7, 3 9, 3 9, 5 4, 5 5
        due.promise(32, "\"SEED (0 ..\", \"ahead of each two LOTS: of JUDGE .. THING ..\"");
        due.is("judge 1, THING 4", one(2, 1, 4).drawn(0, 0), 1);
        due.is("judge 0, THING 7", one(2, 0, 7).drawn(0, 0), 1);
        due.is("judge 1, THING 3", one(2, 1, 3).drawn(0, 0), 1);
        due.is("judge 5, THING 5, the last two", one(6, 5, 5).drawn(0, 0), 1);
        due.is("judge 1, THING 9 never", one(2, 1, 9).drawn(0, 0), 0);
        due.is("judge 0, THING 4 never", one(2, 0, 4).drawn(0, 0), 0);
        due.is("judge 3, THING 9", one(4, 3, 9).drawn(0, 0), 1);
        due.promise(32, "\"if there is one\"");
        due.is("five JUDGES: nothing of the sixth", one(5, 4, 5).drawn(0, 0), 0);
        JudgesByLoss nobody = lawful();
        nobody.file(1, 0);
        due.is("no JUDGES", nobody.drawn(0, 0), 0);
        due.is("the CASE is there", nobody.drawn(0, 1), 1);
        due.promise(32, "\"or not, if it is\"");
        JudgesByLoss x = one(2, 1, 4);
        x.put(1, 0, 16);
        due.is("not LOST any more, ahead of the first DAY", x.drawn(0, 0), 0);
        JudgesByLoss y = one(2, 1, 3);
        y.put(1, 0, 8);
        due.is("LOST yet in the first DAY", y.drawn(0, 0), 1);
        y.put(1, 2, 3);
        due.is("not any more in the third DAY", y.drawn(0, 0), 0);
        y.put(1, 2, 2);
        due.is("LOST yet in the second DAY", y.drawn(0, 0), 1);
        // THING 9 of judge 3: LOST in the seventh DAY, not any more in the eighth
        due.promise(32, "LOST in one DAY, not in the next");
        JudgesByLoss z = one(4, 3, 9);
        z.put(3, 2, 7);
        due.is("free in the seventh", z.drawn(0, 0), 1);
        z.put(3, 2, 8);
        due.is("free in the eighth", z.drawn(0, 0), 0);
        due.promise(32, "\"SEED (.. 99999)\"");
        // by SEED 99999: 2 9, 3 3, 1 4, 3 0, 4 3, 2 4, 2 8, 5 3, 5 4, 5 3
        due.is("judge 2, THING 9", one(3, 2, 9).drawn(99999, 0), 1);
        due.is("judge 2, THING 4", one(3, 2, 4).drawn(99999, 0), 1);
        due.is("judge 2, THING 3 never", one(3, 2, 3).drawn(99999, 0), 0);
        due.is("judge 5, THING 4", one(6, 5, 4).drawn(99999, 0), 1);
    }

    private static void drawnDays() {
        due.promise(32, "\"ten DAYS\"");
        for (int busy = 9; busy <= 11; busy++) {
            JudgesByLoss x = lawful();
            x.judge(30, 0, 0);
            x.file(1, 0);
            x.put(0, 2, busy);
            due.is("free in DAY " + busy + ", heard", x.drawn(0, 0), busy <= 10 ? 1 : 0);
            due.is("free in DAY " + busy + ", there", x.drawn(0, 1), busy <= 10 ? 0 : 1);
        }
        due.promise(32, "\"how many CASES are heard (what 0), which are there then (1; bits)\", all, none");
        JudgesByLoss y = lawful();
        for (int c = 0; c < 8; c++) {
            y.file(1, 0);
        }
        due.is("none is heard", y.drawn(0, 0), 0);
        due.is("all are there", y.drawn(0, 1), 255);
        y.judge(30, 0, 0);
        due.is("all are heard", y.drawn(0, 0), 8);
        due.is("none is there", y.drawn(0, 1), 0);
        y.put(0, 2, 4);
        due.is("seven are heard", y.drawn(0, 0), 7);
        due.is("the last is there", y.drawn(0, 1), 128);
        due.promise(32, "\"in thought\"");
        due.is("DAY", y.count(6), 0);
        due.is("HEARD", y.count(2), 0);
        due.is("LOST", y.told(0, 0), 0);
        due.is("CASES", y.count(1), 8);
    }

    private static void drawnNumbers() {
        due.promise(32, "\"BAD\"");
        JudgesByLoss x = new JudgesByLoss();
        due.is("SEED 0", x.drawn(0, 0), 0);
        due.is("SEED 99999", x.drawn(99999, 0), 0);
        int[] seeds = {-1, 100000, MIN, MAX};
        for (int seed : seeds) {
            due.is("SEED " + seed, x.drawn(seed, 0), -2);
        }
        int[] whats = {-1, 2, MIN, MAX};
        for (int what : whats) {
            due.is("what " + what, x.drawn(0, what), -2);
        }
    }

    private static void odds(JudgesByLoss x, int seed, int seeds, int least, long above, long below) {
        due.is(seeds + " from " + seed + ", " + least + " or more, above", x.odds(seed, seeds, least, 0), above);
        due.is(seeds + " from " + seed + ", " + least + " or more, below", x.odds(seed, seeds, least, 1), below);
    }

    private static void odds() {
        due.promise(33, "\"so many (1 .. 40) seeds\", \"least (0 .. 8)\"");
        JudgesByLoss x = lawful();
        odds(x, 0, 1, 0, 1, 1);
        odds(x, 0, 40, 0, 1, 1);
        odds(x, 0, 1, 1, 0, 1);
        odds(x, 0, 40, 1, 0, 1);
        odds(x, 0, 40, 8, 0, 1);
        for (int c = 0; c < 8; c++) {
            x.file(1, 0);
        }
        x.judge(30, 0, 0);
        due.promise(33, "\"least or more\"");
        odds(x, 0, 40, 7, 1, 1);
        odds(x, 0, 40, 8, 1, 1);
        x.put(0, 2, 4);
        odds(x, 0, 40, 7, 1, 1);
        odds(x, 0, 40, 8, 0, 1);
        due.promise(33, "\"NO: none such\"");
        int[] seeds = {-1, 100000, MIN, MAX};
        int[] many = {0, 41, -1, MIN, MAX};
        int[] least = {-1, 9, MIN, MAX};
        int[] parts = {-1, 2, MIN, MAX};
        for (int v : seeds) {
            due.is("SEED " + v, x.odds(v, 1, 0, 0), JudgesByLoss.NO);
        }
        for (int v : many) {
            due.is("seeds " + v, x.odds(0, v, 0, 0), JudgesByLoss.NO);
        }
        for (int v : least) {
            due.is("least " + v, x.odds(0, 1, v, 0), JudgesByLoss.NO);
        }
        for (int v : parts) {
            due.is("part " + v, x.odds(0, 1, 0, v), JudgesByLoss.NO);
        }
    }

    private static void oddsPast99999() {
        // by SEED 99999 judge 2 loses THING 9 ahead of the first DAY, by 100000 nobody does;
        // by 100000 judge 1 loses THING 8, by 99999 and by 0 nobody does
        due.promise(33, "\"SEED and each 1 more (they may pass 99999)\"");
        odds(one(3, 2, 9), 99999, 1, 1, 1, 1);
        odds(one(3, 2, 9), 99999, 2, 1, 1, 2);
        odds(one(2, 1, 8), 99999, 1, 1, 0, 1);
        odds(one(2, 1, 8), 99999, 2, 1, 1, 2);
        odds(one(2, 1, 8), 0, 1, 1, 0, 1);
        // by 100001 judge 1 loses THING 8, too
        odds(one(2, 1, 8), 99999, 3, 1, 2, 3);
        odds(one(2, 1, 8), 99998, 4, 1, 1, 2);
        due.promise(33, "\"in lowest terms\"");
        JudgesByLoss x = one(2, 1, 8);
        int good = 0;
        for (int seed = 0; seed < 40; seed++) {
            good += x.drawn(seed, 0);
        }
        due.is("forty, across", x.odds(0, 40, 1, 0) * 40, good * x.odds(0, 40, 1, 1));
        for (int d = 2; d <= 40; d++) {
            boolean both = x.odds(0, 40, 1, 0) % d == 0 && x.odds(0, 40, 1, 1) % d == 0;
            due.is("both by " + d, both ? 1 : 0, 0);
        }
    }
}
