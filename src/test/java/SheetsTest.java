/** Promises 25 to 40: told days, burglars by lots, images, the host. */
public final class SheetsTest {
    private static final Due due = new Due();

    public static void main(String[] args) {
        tells();
        kinds();
        turned();
        states();
        dropped();
        laws();
        refusals();
        film();
        drawn();
        odds();
        image();
        sheet();
        cell();
        copy();
        judgesBy();
        taken();
        due.end();
    }

    /** One case is heard in the first day, one in the second; a third can't be heard. */
    private static JudgesByLoss told() {
        JudgesByLoss x = new JudgesByLoss();
        x.judge(0, 3, 50);
        x.file(1, 0);
        x.file(2, 0);
        x.file(512, 0);
        Due.write(x, 0, 1, 1, 0, 0);
        Due.write(x, 1, 0, 1, 1);
        Due.write(x, 2, 1, 1, 0, 2);
        return x;
    }

    private static void tells() {
        due.promise(25, "tells");
        JudgesByLoss x = told();
        due.is("as it is", x.tells(0), -1);
        due.is("otherwise at once", x.tells(1), 0);
        due.is("otherwise later", x.tells(2), 3);
        due.is("DAY", x.count(6), 0);
        x.sheet(3, 0, 0);
        due.is("nothing", x.tells(3), -1);
        x.film(3, 20);
        due.is("twenty", x.tells(3), -1);
        x.cell(3, 19, 1);
        due.is("the twentieth", x.tells(3), 19);
        x.day();
        due.is("from now", x.tells(0), 1);
    }

    private static void kinds() {
        due.promise(26, "kinds");
        JudgesByLoss x = told();
        due.is("KINDS, a YOUNG could hear the third", x.kinds(0, 0, 0), 5);
        due.is("MORE of a JUDGE", x.kinds(0, 0, 1), 1023);
        Due.write(x, 3, 1, 0, 1);
        due.is("KINDS of two days each", x.kinds(3, 0, 0), 16);
        due.is("MORE", x.kinds(3, 0, 1), 0);
        due.is("sort 2", x.kinds(0, 0, 2), -7);
        due.is("sort -1", x.kinds(0, 0, -1), -7);
        due.is("KIND", x.told(0, 3), 0);
        JudgesByLoss y = new JudgesByLoss();
        y.judge(23, 1, 50);
        y.file(1, 0);
        Due.write(y, 0, 0, 0, 0, 1);
        due.is("MORE of a WIDOW", y.kinds(0, 0, 1), 8);
        due.is("KINDS of the fourth day", y.kinds(0, 0, 0), 52);
    }

    private static void turned() {
        due.promise(27, "turned");
        JudgesByLoss x = told();
        due.is("all but those of the cases", x.turned(0, 0), 508);
        Due.write(x, 3, 1, 0, 0);
        due.is("one of the two", x.turned(3, 0), 3);
        due.is("LOST", x.told(0, 0), 3);
        Due.write(x, 3, 1, 1, 1);
        due.is("the third's", x.turned(3, 0), 512);
    }

    private static void states() {
        due.promise(28, "states");
        JudgesByLoss x = told();
        due.is("MIND, how many", x.states(0, 0, 1, 0), 100);
        due.is("MIND, the least", x.states(0, 0, 1, 1), 0);
        due.is("BUSY, how many", x.states(0, 0, 2, 0), 2);
        due.is("BUSY, the least", x.states(0, 0, 2, 1), 0);
        due.is("BUSY by another sheet", x.states(1, 0, 2, 0), 1);
        due.is("BUSY by another sheet, the least", x.states(1, 0, 2, 1), 2);
        due.is("none, how many", x.states(2, 0, 1, 0), 0);
        due.is("none, the least", x.states(2, 0, 1, 1), -1);
        due.is("sort 0", x.states(0, 0, 0, 0), -7);
        due.is("sort 3", x.states(0, 0, 3, 0), -7);
        due.is("what 2", x.states(0, 0, 1, 2), -7);
        due.is("what -1", x.states(0, 0, 1, -1), -7);
        due.is("MIND", x.told(0, 1), 50);
        JudgesByLoss y = new JudgesByLoss();
        y.judge(0, 1, 0);
        y.file(1, 60);
        Due.write(y, 0, 1);
        due.is("MIND from 60 on, how many", y.states(0, 0, 1, 0), 40);
        due.is("MIND from 60 on", y.states(0, 0, 1, 1), 60);
    }

    private static void dropped() {
        due.promise(29, "dropped");
        JudgesByLoss x = told();
        due.is("the third", x.dropped(0), 4);
        Due.write(x, 3, 1, 0, 0);
        due.is("one of the two", x.dropped(3), 3);
        due.is("CASES", x.count(1), 3);
        due.is("those there alone", new JudgesByLoss().dropped(0), -11);
        JudgesByLoss y = new JudgesByLoss();
        Due.write(y, 0, 0, 0);
        due.is("no cases", y.dropped(0), 0);
    }

    private static void laws() {
        due.promise(30, "laws");
        JudgesByLoss x = told();
        due.is("the first alone", x.laws(0), 1);
        Due.read(x, "needs 0;takes 2;judges 0;");
        Due.read(x, "needs hard;takes 1;judges 7;");
        due.is("two of three", x.laws(0), 5);
        Due.write(x, 3, 1, 0, 1);
        due.is("the other", x.laws(3), 2);
        x.force(1);
        due.is("by any law", x.laws(0), 5);
        due.is("THE LAW", x.count(4), 1);
    }

    private static void refusals() {
        JudgesByLoss x = told();
        x.sheet(3, 1, 21);
        int[] sheets = {-1, 4, 3, 2};
        int[] want = {-2, -2, -2, -11};
        x.sheet(2, -1, 0);
        for (int i = 0; i < sheets.length; i++) {
            int s = sheets[i];
            due.promise(25, "tells, SHEET " + s);
            due.is("tells", x.tells(s), want[i]);
            due.promise(26, "kinds, SHEET " + s);
            due.is("kinds", x.kinds(s, 9, 9), want[i]);
            due.promise(27, "turned, SHEET " + s);
            due.is("turned", x.turned(s, 9), want[i]);
            due.promise(28, "states, SHEET " + s);
            due.is("states", x.states(s, 9, 9, 9), want[i]);
            due.promise(29, "dropped, SHEET " + s);
            due.is("dropped", x.dropped(s), want[i]);
            due.promise(30, "laws, SHEET " + s);
            due.is("laws", x.laws(s), want[i]);
        }
        due.promise(26, "to 28, none such");
        due.is("kinds", x.kinds(0, 1, 9), -5);
        due.is("turned", x.turned(0, 1), -5);
        due.is("turned -1", x.turned(0, -1), -5);
        due.is("states", x.states(0, 1, 9, 9), -5);
    }

    private static void film() {
        due.promise(31, "film");
        JudgesByLoss x = told();
        due.is("four days", x.film(3, 4), 4);
        due.is("it tells", x.tells(3), -1);
        due.is("four cells", x.cell(3, 4, 0), -12);
        due.is("bytes", x.copy(3, 0, 0, 0, 1), -13);
        x.cell(3, 0, 257);
        due.is("a byte of 257 is 1", x.tells(3), -1);
        due.is("no days", x.film(3, 0), 0);
        due.is("no cells", x.cell(3, 0, 0), -12);
        due.is("twenty", x.film(3, 20), 20);
        due.is("21", x.film(3, 21), -7);
        due.is("-1", x.film(3, -1), -7);
        due.is("SHEET 4", x.film(4, 21), -2);
        due.is("SHEET -1", x.film(-1, 1), -2);
        due.is("as it was", x.cell(3, 19, 0), 1);
        due.is("DAY", x.count(6), 0);
    }

    private static void drawn() {
        due.promise(32, "drawn");
        // by seed 0 the first LOTS are 48271 (1 modulo 6), 182605794 (4 modulo 10)
        JudgesByLoss x = new JudgesByLoss();
        x.judge(0, 0, 99);
        x.judge(0, 0, 99);
        x.file(16, 0);
        x.put(0, 2, 99);
        due.is("heard in the first day", x.drawn(0, 0), 1);
        due.is("none there", x.drawn(0, 1), 0);
        due.is("LOST", x.told(1, 0), 0);
        due.is("DAY", x.count(6), 0);
        JudgesByLoss y = new JudgesByLoss();
        y.judge(0, 0, 99);
        y.judge(0, 16, 99);
        y.file(16, 0);
        y.file(512, 99);
        y.put(0, 1, 0);
        y.put(1, 2, 9);
        y.put(0, 2, 99);
        due.is("not LOST any more", y.drawn(0, 0), 0);
        due.is("both there", y.drawn(0, 1), 3);
        due.is("seed -1", y.drawn(-1, 0), -2);
        due.is("seed 100000", y.drawn(100000, 0), -2);
        due.is("seed 99999", y.drawn(99999, 0) < 0 ? 0 : 1, 1);
        due.is("what 2", y.drawn(0, 2), -2);
        due.is("what -1", y.drawn(0, -1), -2);
        // by seed 0 the second day's LOTS are 1291394886 (0 modulo 6), 1914720637 (7 modulo 10)
        x.put(1, 0, 16);
        x.hear(1, 0);
        x.file(128, 0);
        x.put(0, 2, 0);
        x.put(1, 2, 99);
        due.is("heard in the second day", x.drawn(0, 0), 1);
        JudgesByLoss w = new JudgesByLoss();
        w.judge(33, 0, 0);
        w.file(8, 0);
        w.put(0, 2, 10);
        due.is("in the tenth day", w.drawn(0, 0), 1);
        w.put(0, 2, 11);
        due.is("in the eleventh day", w.drawn(0, 0), 0);
        JudgesByLoss z = new JudgesByLoss();
        z.judge(59, 0, 0);
        z.judge(52, 0, 0);
        z.file(1, 0);
        z.dawn(997);
        due.is("past 999: day 1003 is 2 modulo 7", z.drawn(5, 0), 1);
    }

    private static void odds() {
        due.promise(33, "odds");
        JudgesByLoss x = new JudgesByLoss();
        x.judge(0, 0, 99);
        x.judge(0, 0, 99);
        x.file(16, 0);
        due.is("one of one", x.odds(0, 1, 1, 0), 1);
        due.is("below", x.odds(0, 1, 1, 1), 1);
        due.is("none of forty, above", x.odds(0, 40, 2, 0), 0);
        due.is("none of forty, below", x.odds(0, 40, 2, 1), 1);
        due.is("all of forty, above", x.odds(99999, 40, 0, 0), 1);
        due.is("all of forty, below", x.odds(99999, 40, 0, 1), 1);
        int heard = 0;
        for (int seed = 100; seed < 136; seed++) {
            heard += x.drawn(seed, 0);
        }
        due.is("36 seeds", x.odds(100, 36, 1, 0) * 36, heard * x.odds(100, 36, 1, 1));
        due.is("seed -1", x.odds(-1, 1, 0, 0), JudgesByLoss.NO);
        due.is("seed 100000", x.odds(100000, 1, 0, 0), JudgesByLoss.NO);
        due.is("0 seeds", x.odds(0, 0, 0, 0), JudgesByLoss.NO);
        due.is("41 seeds", x.odds(0, 41, 0, 0), JudgesByLoss.NO);
        due.is("least -1", x.odds(0, 1, -1, 0), JudgesByLoss.NO);
        due.is("least 9", x.odds(0, 1, 9, 0), JudgesByLoss.NO);
        due.is("least 8", x.odds(0, 1, 8, 0), 0);
        due.is("part 2", x.odds(0, 1, 0, 2), JudgesByLoss.NO);
        due.is("part -1", x.odds(0, 1, 0, -1), JudgesByLoss.NO);
    }

    private static void image() {
        due.promise(34, "image");
        JudgesByLoss x = new JudgesByLoss();
        due.promise(35, "back");
        due.is("no image", x.back(), -3);
        x.judge(12, 7, 30);
        x.judge(0, 8, 40);
        x.put(0, 2, 1);
        x.file(1, 20);
        x.file(16, 60);
        x.day();
        Due.read(x, "needs 1;takes 1;judges 1;");
        due.promise(34, "image");
        due.is("two", x.image(), 2);
        x.feed(1, 65, 0, 0, 0, 0);
        x.judge(30, 1, 1);
        x.put(0, 0, 0);
        x.put(1, 1, 99);
        x.put(1, 2, 50);
        x.file(9, 9);
        x.dawn(500);
        x.judge(33, 0, 0);
        x.file(8, 99);
        due.is("a hearing behind the image", x.hear(3, 2), 1000);
        x.force(1);
        x.rob(1, 24);
        x.day();
        due.is("HEARD by then", x.count(2), 2);
        Due.write(x, 0, 4);
        for (int i = 0; i < 2; i++) {
            due.promise(35, "back, time " + i);
            due.is("two", x.back(), 2);
            due.is("JUDGES", x.count(0), 2);
            due.is("LOST 0", x.told(0, 0), 6);
            due.is("MIND 0", x.told(0, 1), 60);
            due.is("BUSY 0", x.told(0, 2), 3);
            due.is("KIND 0", x.told(0, 3), 1);
            due.is("LOST 1", x.told(1, 0), 8);
            due.is("MIND 1", x.told(1, 1), 40);
            due.is("BUSY 1", x.told(1, 2), 0);
            due.is("case 0", x.paper(0, 0), -6);
            due.is("case 1", x.paper(1, 0), 16);
            due.is("HARD", x.paper(1, 1), 60);
            due.is("WAITED", x.paper(1, 2), 1);
            due.is("case 2", x.paper(2, 0), -6);
            due.is("DAY", x.count(6), 1);
            due.is("HEARD", x.count(2), 1);
            due.is("THE LAW", x.count(4), 0);
            due.is("TEXTS stay", x.count(3), 2);
            due.is("THE TAPE stays", x.count(5), 1);
            due.is("SHEETS stay", x.tells(0), 0);
            x.judge(0, 0, 0);
            x.day();
            x.day();
            x.dawn(9);
        }
        due.is("another image", x.image(), 3);
        x.dawn(0);
        x.back();
        due.is("DAY of the other", x.count(6), 9);
    }

    private static void sheet() {
        due.promise(36, "sheet");
        JudgesByLoss x = new JudgesByLoss();
        due.is("SHEET -1", x.sheet(-1, 0, 1), -2);
        due.is("SHEET 4", x.sheet(4, 0, 1), -2);
        due.is("sort -2", x.sheet(0, -2, 1), -2);
        due.is("sort 3", x.sheet(0, 3, -1), -2);
        due.is("41", x.sheet(0, 0, 41), -2);
        due.is("-1", x.sheet(0, 0, -1), -14);
        due.is("still missing", x.cell(0, 0, 0), -11);
        due.is("missing, 41", x.sheet(0, -1, 41), 1);
        due.is("missing, -1", x.sheet(0, -1, -1), 1);
        for (int sort = 0; sort < 3; sort++) {
            due.is("sort " + sort, x.sheet(sort, sort, 40), 1);
            due.is("its last", x.cell(sort, 39, 5), 1);
        }
        due.is("none", x.sheet(3, 2, 0), 1);
        due.is("no place", x.cell(3, 0, 0), -12);
        x.sheet(0, 2, 3);
        x.cell(0, 0, 9);
        x.sheet(0, 2, 3);
        due.is("all 0", x.tells(0), -1);
        x.cell(0, 0, 9);
        due.is("-1 changes nothing", x.sheet(0, 2, -1), -14);
        due.is("41 changes nothing", x.sheet(0, 2, 41), -2);
        due.is("as it was", x.tells(0), 0);
        x.sheet(0, -1, 0);
        due.is("missing", x.tells(0), -11);
    }

    private static void cell() {
        due.promise(37, "cell");
        JudgesByLoss x = new JudgesByLoss();
        x.sheet(0, 0, 2);
        x.sheet(1, 1, 2);
        x.sheet(2, 2, 2);
        due.is("SHEET 4", x.cell(4, 0, 0), -2);
        due.is("SHEET -1", x.cell(-1, 0, 0), -2);
        due.is("missing", x.cell(3, -1, 0), -11);
        due.is("place -1", x.cell(0, -1, 0), -12);
        due.is("place 2", x.cell(0, 2, 0), -12);
        x.cell(0, 1, 256);
        due.is("256 as a byte is 0", x.tells(0), -1);
        x.cell(1, 1, 256);
        due.is("256 as a short isn't", x.tells(1), 1);
        x.cell(1, 1, 65536);
        due.is("65536 as a short is 0", x.tells(1), -1);
        x.cell(2, 1, 65536);
        due.is("65536 as an int isn't", x.tells(2), 1);
    }

    private static void copy() {
        due.promise(38, "copy");
        JudgesByLoss x = new JudgesByLoss();
        Due.write(x, 0, 1, 2, 3, 4, 5, 6);
        Due.write(x, 1, 0, 0, 0);
        x.sheet(2, 1, 5);
        due.is("SHEET 4", x.copy(4, 0, 3, 0, 1), -2);
        due.is("other -1", x.copy(3, 0, -1, 0, 1), -2);
        due.is("other 4", x.copy(3, 0, 4, 0, 1), -2);
        due.is("missing", x.copy(3, 0, 2, 0, 1), -11);
        due.is("other missing", x.copy(0, 0, 3, 0, 1), -11);
        due.is("unlike, ahead of the place", x.copy(0, 0, 2, 99, 1), -13);
        due.is("i -1", x.copy(0, -1, 1, 0, 1), -12);
        due.is("j -1", x.copy(0, 0, 1, -1, 1), -12);
        due.is("n -1", x.copy(0, 0, 1, 0, -1), -12);
        due.is("past the end", x.copy(0, 4, 1, 0, 3), -12);
        due.is("past the other's end", x.copy(0, 0, 1, 1, 3), -12);
        due.is("far past", x.copy(0, Integer.MAX_VALUE, 1, 0, 1), -12);
        due.is("far more", x.copy(0, 1, 1, 1, Integer.MAX_VALUE), -12);
        due.is("none", x.copy(0, 6, 1, 3, 0), 0);
        due.is("none past the end", x.copy(0, 7, 1, 3, 0), -12);
        due.is("nothing came", x.tells(1), -1);
        due.is("three", x.copy(0, 3, 1, 0, 3), 3);
        Due.write(x, 3, 1, 2, 3);
        due.is("its own, further on", x.copy(0, 0, 0, 1, 5), 5);
        due.is("its own, ahead", x.copy(1, 1, 1, 0, 2), 2);
        x.judgesBy(0, 2, 0, 2);
        due.is("1, 1, 2", told(x, 0), 10102);
        due.is("3, 4, 5", told(x, 1), 30405);
        x.judgesBy(1, 2, 0, 1);
        due.is("5, 6, 6", told(x, 2), 50606);
    }

    private static int told(JudgesByLoss x, int p) {
        return 10000 * (10 * x.told(p, 3) + x.told(p, 4)) + 100 * x.told(p, 0) + x.told(p, 1);
    }

    private static void judgesBy() {
        due.promise(39, "judgesBy");
        JudgesByLoss x = new JudgesByLoss();
        Due.write(x, 0, 9, 41, 1, 2, 60, 3, 4, 12, 5, 6, 7);
        due.is("SHEET 4", x.judgesBy(4, 2, 0, 1), -2);
        due.is("SHEET -1", x.judgesBy(-1, 2, 0, 1), -2);
        due.is("sort -1", x.judgesBy(0, -1, 0, 1), -2);
        due.is("sort 3", x.judgesBy(0, 3, 0, 1), -2);
        due.is("n -1", x.judgesBy(0, 2, 0, -1), -2);
        due.is("n 7", x.judgesBy(0, 2, 0, 7), -2);
        due.is("missing", x.judgesBy(1, 2, 99, 1), -11);
        due.is("unlike", x.judgesBy(0, 0, 99, 1), -13);
        due.is("place -1", x.judgesBy(0, 2, -1, 1), -12);
        due.is("place 9", x.judgesBy(0, 2, 9, 1), -12);
        due.is("far", x.judgesBy(0, 2, Integer.MAX_VALUE, 6), -12);
        due.is("far below", x.judgesBy(0, 2, Integer.MIN_VALUE, 6), -12);
        due.is("nobody yet", x.count(0), 0);
        due.is("none", x.judgesBy(0, 2, 1, 0), 0);
        due.is("two of three", x.judgesBy(0, 2, 1, 3), 2);
        due.is("the first", told(x, 0), 410102);
        due.is("the second", told(x, 1), 120506);
        due.is("what stood ahead", x.judgesBy(0, 2, 1, 4), -12);
        due.is("came", x.count(0), 4);
        x.judge(0, 0, 0);
        due.is("room for one", x.judgesBy(0, 2, 1, 3), 1);
        due.is("no room", x.judgesBy(0, 2, 1, 3), 0);
        due.is("BUSY", x.told(5, 2), 0);
        JudgesByLoss y = new JudgesByLoss();
        y.sheet(0, 0, 6);
        y.cell(0, 1, 200);
        y.cell(0, 4, 100);
        due.is("a byte of 200 is below 0", y.judgesBy(0, 0, 0, 2), 1);
        due.is("LOST", y.told(0, 0), 100);
        y.sheet(3, 1, 3);
        y.cell(3, 1, 65536 + 600);
        due.is("a short", y.judgesBy(3, 1, 0, 1), 1);
        due.is("LOST", y.told(1, 0), 600);
    }

    private static void taken() {
        due.promise(40, "taken");
        JudgesByLoss x = new JudgesByLoss();
        // by KINDS, the KINDS that one of it is also taken for
        int[] isOf = {1, 3, 5, 11, 21, 33};
        for (int kind = 0; kind < 6; kind++) {
            x.judge(10 * kind, 0, 0);
            for (int as = 0; as < 7; as++) {
                due.is(kind + " for " + as, x.taken(kind, as), (isOf[kind] >> as & 1) == 1 ? kind : -13);
            }
        }
        x.file(70, 0);
        due.is("a case", x.taken(6, 6), 70);
        for (int as = 0; as < 6; as++) {
            due.is("a case for " + as, x.taken(6, as), -13);
        }
        due.is("no case", x.taken(7, 0), -11);
        due.is("no last case", x.taken(13, 6), -11);
        due.is("place 14", x.taken(14, 0), -12);
        due.is("place -1", x.taken(-1, 0), -12);
        due.is("kind 7", x.taken(14, 7), -2);
        due.is("kind -1", x.taken(0, -1), -2);
        due.is("nobody", new JudgesByLoss().taken(0, 6), -11);
    }
}
