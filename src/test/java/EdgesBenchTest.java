/** The boundaries that the document names in 'Terms' and promises 1 to 4, 6 to 13, sentence by sentence. */
public final class EdgesBenchTest {
    private static final Due due = new Due();
    private static final int MIN = Integer.MIN_VALUE, MAX = Integer.MAX_VALUE;

    public static void main(String[] args) {
        atFirst();
        countAtItsMost();
        day();
        tape();
        law();
        asksWithinBounds();
        judges();
        cases();
        putAndTold();
        may();
        mayByDays();
        mayOfLucky();
        takes();
        judgesSo();
        due.end();
    }

    // ---- promise 1, and what the terms say is so at first

    private static void atFirst() {
        JudgesByLoss x = new JudgesByLoss();
        due.promise(1, "\"No JUDGES, no CASES\"");
        due.is("JUDGES", x.count(0), 0);
        due.is("CASES", x.count(1), 0);
        for (int p = 0; p < 6; p++) {
            due.is("judge " + p, x.told(p, 0), -5);
        }
        for (int c = 0; c < 8; c++) {
            due.is("case " + c, x.paper(c, 0), -6);
        }
        due.promise(1, "\"0 at first\"");
        due.is("HEARD", x.count(2), 0);
        due.is("DAY", x.count(6), 0);
        due.promise(1, "THE TAPE is empty");
        due.is("bytes", x.count(5), 0);
        due.is("text()", x.text(), -100);
        due.promise(1, "\"missing (as all are at first)\"");
        for (int s = 0; s < 4; s++) {
            due.is("sheet " + s, x.tells(s), -11);
        }
        due.promise(1, "no IMAGE");
        due.is("back()", x.back(), -3);
        due.promise(1, "\"TEXT 0, at first, and THE LAW\"");
        due.is("TEXTS", x.count(3), 1);
        due.is("THE LAW", x.count(4), 0);
        x.judge(0, 0, 71);
        x.file(1023, 83);
        due.is("needs hard", x.asks(0, 0, 0), 83);
        due.is("takes things", x.asks(1, 0, 0), 10);
        due.is("judges mind", x.asks(2, 0, 0), 71);
    }

    private static void countAtItsMost() {
        due.promise(2, "count at its most");
        JudgesByLoss x = Scenes.full();
        x.dawn(999);
        x.force(5);
        long[] most = {6, 8, 0, 6, 5, 160, 999};
        for (int what = 0; what < most.length; what++) {
            due.is("count(" + what + ")", x.count(what), most[what]);
        }
        due.promise(2, "\"BAD\"");
        due.is("just below", x.count(-1), -2);
        due.is("just above", x.count(7), -2);
        due.is("the least int", x.count(MIN), -2);
        due.is("the greatest int", x.count(MAX), -2);
        due.promise(2, "HEARD is as many as were heard");
        JudgesByLoss y = new JudgesByLoss();
        for (int i = 1; i <= 60; i++) {
            // a LUCKY hears what it is lucky with though nothing is LOST
            if (i == 1) {
                y.judge(30, 0, 0);
            }
            y.file(1, 99);
            y.put(0, 2, 0);
            y.hear(0, 0);
            due.is("HEARD", y.count(2), i);
        }
    }

    private static void day() {
        due.promise(3, "\"DAY (0 .. 999)\"");
        JudgesByLoss x = new JudgesByLoss();
        due.is("the least", x.dawn(0), 0);
        due.is("the greatest", x.dawn(999), 0);
        due.promise(3, "\"BAD\"");
        due.is("just above", x.dawn(1000), -2);
        due.is("just below", x.dawn(-1), -2);
        due.is("the least int", x.dawn(MIN), -2);
        due.is("the greatest int", x.dawn(MAX), -2);
        due.is("DAY is what it was", x.count(6), 999);
    }

    // ---- promise 4

    private static void tape() {
        due.promise(4, "\"The first n (1 .. 5)\"");
        for (int n = 1; n <= 5; n++) {
            due.is("n " + n, new JudgesByLoss().feed(n, 0, 255, 0, 255, 0), n);
        }
        due.promise(4, "\"five bytes (0 .. 255 each)\"");
        JudgesByLoss x = new JudgesByLoss();
        due.is("all the least", x.feed(5, 0, 0, 0, 0, 0), 5);
        due.is("all the greatest", x.feed(5, 255, 255, 255, 255, 255), 10);
        due.promise(4, "\"BAD: n, any of the five\"");
        due.is("n 0", x.feed(0, 0, 0, 0, 0, 0), -2);
        due.is("n 6", x.feed(6, 0, 0, 0, 0, 0), -2);
        due.is("n, the least int", x.feed(MIN, 0, 0, 0, 0, 0), -2);
        due.is("n, the greatest int", x.feed(MAX, 0, 0, 0, 0, 0), -2);
        int[] bad = {-1, 256, MIN, MAX};
        for (int v : bad) {
            due.is("the first " + v, x.feed(5, v, 0, 0, 0, 0), -2);
            due.is("the second " + v, x.feed(1, 0, v, 0, 0, 0), -2);
            due.is("the third " + v, x.feed(2, 0, 0, v, 0, 0), -2);
            due.is("the fourth " + v, x.feed(3, 0, 0, 0, v, 0), -2);
            due.is("the fifth " + v, x.feed(4, 0, 0, 0, 0, v), -2);
        }
        due.is("none came", x.count(5), 10);
        due.promise(4, "\"THE TAPE (160 bytes at most)\"");
        due.is("155 and 5", Scenes.fed(155).feed(5, 32, 32, 32, 32, 32), 160);
        due.is("156 and 5", Scenes.fed(156).feed(5, 32, 32, 32, 32, 32), -4);
        due.is("156 and 4", Scenes.fed(156).feed(4, 32, 32, 32, 32, 32), 160);
        due.is("159 and 1", Scenes.fed(159).feed(1, 32, 32, 32, 32, 32), 160);
        due.is("159 and 2", Scenes.fed(159).feed(2, 32, 32, 32, 32, 32), -4);
        due.is("160 and 1", Scenes.fed(160).feed(1, 32, 32, 32, 32, 32), -4);
        due.promise(4, "\"FULL: they have not all room (none comes)\"");
        JudgesByLoss y = Scenes.fed(158);
        due.is("the third has no room", y.feed(3, 'x', 'x', 'x', 0, 0), -4);
        due.is("bytes", y.count(5), 158);
        due.is("none of the three came", y.text(), 1);
        due.promise(4, "bytes behind the first n don't come");
        JudgesByLoss z = Scenes.fed(25);
        z.feed(1, 32, 'x', 'x', 'x', 'x');
        due.is("the others didn't", z.text(), 1);
    }

    // ---- promises 6 and 7

    private static void law() {
        due.promise(6, "\"TEXTS are numbered from 0 on, 6 at most\"");
        JudgesByLoss x = Scenes.full();
        due.is("the last", x.force(5), 0);
        due.is("the first", x.force(0), 5);
        due.is("the same", x.force(0), 0);
        due.promise(6, "\"BAD\"");
        due.is("just above", x.force(6), -2);
        due.is("just below", x.force(-1), -2);
        due.is("the least int", x.force(MIN), -2);
        due.is("the greatest int", x.force(MAX), -2);
        due.is("THE LAW is what it was", x.count(4), 0);
        JudgesByLoss y = new JudgesByLoss();
        due.is("1 isn't there yet", y.force(1), -2);
        Due.read(y, "needs");
        due.is("by a FAULT there is none", y.force(1), -2);
    }

    private static int asks(int part, String expression) {
        JudgesByLoss x = new JudgesByLoss();
        x.judge(0, 0, 0);
        x.file(1, 0);
        String[] parts = {"0", "0", "0"};
        parts[part] = expression;
        Due.read(x, "needs " + parts[0] + ";takes " + parts[1] + ";judges " + parts[2] + ";");
        x.force(1);
        return x.asks(part, 0, 0);
    }

    private static void asksWithinBounds() {
        String least = "0-4096*4096*128";
        String greatest = "4096*4096*128-1";
        for (int part = 0; part < 2; part++) {
            due.promise(7, "\"(needs, takes 0 .. 99 .. else the bound)\", part " + part);
            due.is("-1", asks(part, "-1"), 0);
            due.is("0", asks(part, "0"), 0);
            due.is("1", asks(part, "1"), 1);
            due.is("98", asks(part, "98"), 98);
            due.is("99", asks(part, "99"), 99);
            due.is("100", asks(part, "100"), 99);
            due.is("the least int", asks(part, least), 0);
            due.is("the greatest int", asks(part, greatest), 99);
        }
        due.promise(7, "\"judges -99 .. 99, else the bound\"");
        due.is("-100", asks(2, "-100"), -99);
        due.is("-99", asks(2, "-99"), -99);
        due.is("-98", asks(2, "-98"), -98);
        due.is("99", asks(2, "99"), 99);
        due.is("100", asks(2, "100"), 99);
        due.is("the least int", asks(2, least), -99);
        due.is("the greatest int", asks(2, greatest), 99);
        due.promise(7, "\"-1000: none such, it isn't there\"");
        JudgesByLoss x = Scenes.some();
        due.is("part below", x.asks(-1, 0, 1), -1000);
        due.is("part above", x.asks(3, 0, 1), -1000);
        due.is("judge below", x.asks(0, -1, 1), -1000);
        due.is("judge above", x.asks(0, 2, 1), -1000);
        due.is("case below", x.asks(0, 0, -1), -1000);
        due.is("case above", x.asks(0, 0, 8), -1000);
        due.is("a case that was heard", x.asks(0, 0, 0), -1000);
        due.is("a case that never came", x.asks(0, 0, 7), -1000);
        int[] far = {MIN, MAX};
        for (int v : far) {
            due.is("part " + v, x.asks(v, 0, 1), -1000);
            due.is("judge " + v, x.asks(0, v, 1), -1000);
            due.is("case " + v, x.asks(0, 0, v), -1000);
        }
    }

    // ---- promises 8 and 9

    private static void judges() {
        due.promise(8, "\"JUDGES are numbered from 0 on, 6 at most\"");
        JudgesByLoss x = new JudgesByLoss();
        for (int p = 0; p < 6; p++) {
            due.is("judge " + p, x.judge(59 - p, 1023 - p, 99 - p), p);
        }
        due.is("FULL", x.judge(0, 0, 0), -4);
        due.is("six", x.count(0), 6);
        for (int p = 0; p < 6; p++) {
            due.is("LOST of " + p, x.told(p, 0), 1023 - p);
            due.is("MIND of " + p, x.told(p, 1), 99 - p);
            due.is("KIND of " + p, x.told(p, 3), 5);
            due.is("MORE of " + p, x.told(p, 4), 9 - p);
        }
        due.promise(8, "the least and the greatest numbers");
        JudgesByLoss y = new JudgesByLoss();
        due.is("kindMore 0, own 0, minds 0", y.judge(0, 0, 0), 0);
        due.is("kindMore 59", y.judge(59, 0, 0), 1);
        due.is("own 1023", y.judge(0, 1023, 0), 2);
        due.is("minds 99", y.judge(0, 0, 99), 3);
        due.is("kindMore 9 is KIND 0", y.judge(9, 0, 0), 4);
        due.is("KIND", y.told(4, 3), 0);
        due.is("MORE", y.told(4, 4), 9);
        due.is("kindMore 10 is KIND 1", y.judge(10, 0, 0), 5);
        due.is("KIND", y.told(5, 3), 1);
        due.is("MORE", y.told(5, 4), 0);
        due.promise(8, "\"BAD\"");
        int[][] bad = {{-1, 60, MIN, MAX}, {-1, 1024, MIN, MAX}, {-1, 100, MIN, MAX}};
        JudgesByLoss z = new JudgesByLoss();
        for (int i = 0; i < 4; i++) {
            due.is("kindMore " + bad[0][i], z.judge(bad[0][i], 0, 0), -2);
            due.is("own " + bad[1][i], z.judge(0, bad[1][i], 0), -2);
            due.is("minds " + bad[2][i], z.judge(0, 0, bad[2][i]), -2);
        }
        due.is("none came", z.count(0), 0);
        due.promise(8, "\"BUSY .. 0 as one comes\"");
        z.image();
        z.judge(0, 0, 0);
        z.put(0, 2, 99);
        z.back();
        z.judge(0, 0, 0);
        due.is("in the place of one who was BUSY", z.told(0, 2), 0);
    }

    private static void cases() {
        due.promise(9, "\"CASES 0 .. 7\", \"the first that isn't there\"");
        JudgesByLoss x = new JudgesByLoss();
        x.judge(0, 1023, 99);
        for (int c = 0; c < 8; c++) {
            due.is("case " + c, x.file(1 << c, 99 - c), c);
        }
        due.is("FULL: all are there", x.file(1, 0), -4);
        x.hear(0, 7);
        due.is("the last again", x.file(2, 0), 7);
        x.put(0, 2, 0);
        x.hear(0, 5);
        x.put(0, 2, 0);
        x.hear(0, 0);
        due.is("the first of two gaps", x.file(3, 0), 0);
        due.is("the other", x.file(4, 0), 5);
        due.is("FULL again", x.file(1, 0), -4);
        due.promise(9, "\"ABOUT THINGS (one at least)\", \"HARD (0 .. 99)\"");
        JudgesByLoss y = new JudgesByLoss();
        due.is("no THINGS", y.file(0, 0), -2);
        due.is("one THING", y.file(1, 0), 0);
        due.is("THING 9", y.file(512, 0), 1);
        due.is("all THINGS", y.file(1023, 0), 2);
        due.is("THING 10", y.file(1024, 0), -2);
        due.is("below", y.file(-1, 0), -2);
        due.is("HARD 99", y.file(1, 99), 3);
        due.is("HARD 100", y.file(1, 100), -2);
        due.is("HARD -1", y.file(1, -1), -2);
        int[] far = {MIN, MAX};
        for (int v : far) {
            due.is("things " + v, y.file(v, 0), -2);
            due.is("hardness " + v, y.file(1, v), -2);
        }
        due.is("four came", y.count(1), 4);
        due.promise(9, "\"WAITED .. 0 as it comes\"");
        y.day();
        due.is("it WAITED", y.paper(3, 2), 1);
        y.judge(0, 1023, 99);
        y.hear(0, 3);
        y.file(8, 0);
        due.is("in the place of one that WAITED", y.paper(3, 2), 0);
        due.is("the others WAITED", y.paper(2, 2), 1);
    }

    // ---- promises 10 to 12

    private static void putAndTold() {
        due.promise(10, "\"LOST (what 0; bits), MIND (1), BUSY (2) becomes v: what it was\"");
        JudgesByLoss x = new JudgesByLoss();
        x.judge(0, 1023, 99);
        int[] most = {1023, 99, 99};
        for (int what = 0; what < 3; what++) {
            x.put(0, what, most[what]);
            due.is("what " + what + ", the least", x.put(0, what, 0), most[what]);
            due.is("what " + what + ", told", x.told(0, what), 0);
            due.is("what " + what + ", the greatest", x.put(0, what, most[what]), 0);
            due.is("what " + what + ", told", x.told(0, what), most[what]);
            due.is("what " + what + ", just above", x.put(0, what, most[what] + 1), -7);
            due.is("what " + what + ", just below", x.put(0, what, -1), -7);
            due.is("what " + what + ", the least int", x.put(0, what, MIN), -7);
            due.is("what " + what + ", the greatest int", x.put(0, what, MAX), -7);
            due.is("what " + what + ", as it was", x.told(0, what), most[what]);
        }
        due.promise(10, "\"-7: what\"");
        due.is("KIND can't be put", x.put(0, 3, 0), -7);
        due.is("below", x.put(0, -1, 0), -7);
        due.is("the least int", x.put(0, MIN, 0), -7);
        due.is("the greatest int", x.put(0, MAX, 0), -7);
        due.promise(10, "\"-5: none such\"");
        int[] nobody = {-1, 1, 6, MIN, MAX};
        for (int p : nobody) {
            due.is("put of " + p, x.put(p, 0, 0), -5);
            due.promise(11, "\"-5: none such\"");
            due.is("told of " + p, x.told(p, 0), -5);
            due.promise(13, "\"-5: none such\"");
            due.is("hearing of " + p, x.hearing(p, 0, 0), -5);
        }
        due.promise(10, "\"BUSY .. by a HEARING as long as it TAKES, above 99, too\"");
        Due.read(x, "needs 0;takes 99;judges 0;");
        x.force(1);
        x.judge(40, 1, 0);
        x.file(1, 0);
        x.hear(1, 0);
        due.promise(11, "\"BUSY .. above 99, too\"");
        due.is("198", x.told(1, 2), 198);
        due.promise(10, "\"what it was\", above 99, too");
        due.is("198", x.put(1, 2, 99), 198);
        whats();
    }

    private static void whats() {
        JudgesByLoss x = Scenes.full();
        int[] far = {-1, MIN, MAX};
        for (int v : far) {
            due.promise(11, "\"-7: what\"");
            due.is("what " + v, x.told(0, v), -7);
            due.promise(12, "\"-7: what\"");
            due.is("what " + v, x.paper(0, v), -7);
            due.promise(13, "\"-7: what\"");
            due.is("what " + v, x.hearing(0, 0, v), -7);
            due.promise(12, "\"-6: it isn't there\"");
            due.is("case " + v, x.paper(v, 0), -6);
            due.promise(13, "\"-6: it isn't there\"");
            due.is("case " + v, x.hearing(0, v, 0), -6);
        }
        due.promise(11, "\"-7: what\"");
        due.is("what 6", x.told(5, 6), -7);
        due.promise(12, "\"-7: what\"");
        due.is("what 4", x.paper(7, 4), -7);
        due.promise(13, "\"-7: what\"");
        due.is("what 3", x.hearing(5, 7, 3), -7);
        due.promise(12, "\"-6: it isn't there\"");
        due.is("case 8", x.paper(8, 0), -6);
        due.promise(11, "\"CASES (bits) one MAY hear\", all and none");
        JudgesByLoss y = new JudgesByLoss();
        y.judge(0, 1023, 99);
        y.judge(0, 0, 99);
        due.is("no CASES", y.told(0, 5), 0);
        for (int c = 0; c < 8; c++) {
            y.file(1 << c, 99);
        }
        due.is("all", y.told(0, 5), 255);
        due.is("none", y.told(1, 5), 0);
        y.put(0, 2, 99);
        due.is("all, though BUSY", y.told(0, 5), 255);
        due.promise(12, "\"JUDGES (bits) who MAY hear it\", all and none");
        due.is("one, though BUSY", y.paper(7, 3), 1);
        for (int p = 2; p < 6; p++) {
            y.judge(0, 128, 99);
        }
        due.is("all but one", y.paper(7, 3), 61);
        y.rob(1, 128);
        due.is("all", y.paper(7, 3), 63);
        JudgesByLoss z = new JudgesByLoss();
        z.file(1, 0);
        due.is("there are no JUDGES", z.paper(0, 3), 0);
    }

    // ---- KINDS

    private static int may(int kindMore, int own, int minds, int things, int hardness, int day) {
        JudgesByLoss x = new JudgesByLoss();
        x.dawn(day);
        x.judge(kindMore, own, minds);
        x.file(things, hardness);
        return x.hearing(0, 0, 0);
    }

    private static void may() {
        due.promise(13, "JUDGE: \"all it is ABOUT is LOST\"");
        due.is("all ten", may(0, 1023, 0, 1023, 0, 0), 1);
        due.is("all but the highest", may(0, 511, 0, 1023, 0, 0), 0);
        due.is("all but the lowest", may(0, 1022, 0, 1023, 0, 0), 0);
        due.is("just that one", may(0, 512, 0, 512, 0, 0), 1);
        due.is("all but that one", may(0, 511, 0, 512, 0, 0), 0);
        due.promise(13, "JUDGE: \"MIND is as much as is NEEDED, or more\"");
        due.is("as much, 0", may(0, 1, 0, 1, 0, 0), 1);
        due.is("one less, 0", may(0, 1, 0, 1, 1, 0), 0);
        due.is("one more, 1", may(0, 1, 1, 1, 0, 0), 1);
        due.is("as much, 99", may(0, 1, 99, 1, 99, 0), 1);
        due.is("one less, 98", may(0, 1, 98, 1, 99, 0), 0);
        due.promise(13, "YOUNG: \"all it is ABOUT but one THING at most\"");
        due.is("but none", may(10, 3, 5, 3, 5, 0), 1);
        due.is("but one", may(10, 2, 5, 3, 5, 0), 1);
        due.is("but two", may(10, 0, 5, 3, 5, 0), 0);
        due.is("but one of ten", may(10, 1022, 5, 1023, 5, 0), 1);
        due.is("but two of ten", may(10, 1020, 5, 1023, 5, 0), 0);
        due.is("but the one it is", may(10, 0, 5, 1, 5, 0), 1);
        due.promise(13, "YOUNG: \"MIND is as much as is NEEDED, or more\"");
        due.is("one less", may(10, 3, 4, 3, 5, 0), 0);
        due.is("one more", may(10, 3, 6, 3, 5, 0), 1);
        due.promise(13, "APPEAL: \"twice as much NEEDED\"");
        due.is("twice 0", may(40, 1, 0, 1, 0, 0), 1);
        due.is("twice 1, one less", may(40, 1, 1, 1, 1, 0), 0);
        due.is("twice 1", may(40, 1, 2, 1, 1, 0), 1);
        due.is("twice 49", may(40, 1, 98, 1, 49, 0), 1);
        due.is("twice 50 is more than one can MIND", may(40, 1, 99, 1, 50, 0), 0);
        due.is("LOST less", may(40, 0, 99, 1, 0, 0), 0);
    }

    private static void mayByDays() {
        due.promise(13, "WIDOW: \"not if DAY modulo 10 is below MORE\"");
        for (int more = 0; more < 10; more++) {
            for (int day = 0; day < 10; day++) {
                due.is("MORE " + more + ", DAY " + day, may(20 + more, 1, 0, 1, 0, day), day < more ? 0 : 1);
                due.is("MORE " + more + ", DAY 99" + day, may(20 + more, 1, 0, 1, 0, 990 + day), day < more ? 0 : 1);
            }
        }
        due.promise(13, "APPEAL: \"MAY as a WIDOW\"");
        due.is("DAY 8, MORE 9", may(49, 1, 0, 1, 0, 8), 0);
        due.is("DAY 9, MORE 9", may(49, 1, 0, 1, 0, 9), 1);
        due.is("DAY 10, MORE 9", may(49, 1, 0, 1, 0, 10), 0);
        due.is("DAY 999, MORE 9", may(49, 1, 0, 1, 0, 999), 1);
        due.promise(13, "OLD: \"DAY modulo 7 is MORE\"");
        for (int more = 0; more < 10; more++) {
            for (int day = 0; day < 8; day++) {
                due.is("MORE " + more + ", DAY " + day, may(50 + more, 0, 0, 1, 99, day), day % 7 == more ? 1 : 0);
            }
        }
        due.is("DAY 999 is 5", may(55, 0, 0, 1, 99, 999), 1);
        due.is("DAY 999 isn't 6", may(56, 0, 0, 1, 99, 999), 0);
    }

    private static void mayOfLucky() {
        due.promise(13, "LUCKY: \"ABOUT just THING MORE\"");
        for (int more = 0; more < 10; more++) {
            due.is("THING " + more, may(30 + more, 0, 0, 1 << more, 99, 0), 1);
            due.is("the one behind " + more, may(30 + more, 1023, 99, 1 << (more + 1) % 10, 0, 0), 0);
        }
        due.promise(13, "LUCKY: \"not if it is ABOUT fewer than 3 THINGS\"");
        due.is("one", may(39, 1023, 99, 1, 0, 0), 0);
        due.is("two", may(39, 1023, 99, 3, 0, 0), 0);
        due.is("two, MORE one of them", may(30, 1023, 99, 3, 0, 0), 0);
        due.is("three", may(39, 7, 0, 7, 0, 0), 1);
        due.is("three, but one", may(39, 3, 0, 7, 0, 0), 1);
        due.is("three, but two", may(39, 1, 0, 7, 0, 0), 0);
        due.is("three, MINDS less", may(39, 7, 4, 7, 5, 0), 0);
        due.is("three, MORE one of them, MINDS less", may(30, 7, 4, 7, 5, 0), 0);
        due.is("ten, but one", may(39, 511, 99, 1023, 99, 0), 1);
    }

    private static int told(int kindMore, String takes, String judges, int what) {
        JudgesByLoss x = new JudgesByLoss();
        Due.read(x, "needs 0;takes " + takes + ";judges " + judges + ";");
        x.force(1);
        x.judge(kindMore, 0, 0);
        x.file(1, 0);
        return x.hearing(0, 0, what);
    }

    private static void takes() {
        due.promise(13, "\"TAKES 1 at least\"");
        for (int kind = 0; kind < 6; kind++) {
            due.is("KIND " + kind + ", the text says 0", told(10 * kind, "0", "0", 1), 1);
            due.is("KIND " + kind + ", the text says below 0", told(10 * kind, "-9", "0", 1), 1);
        }
        due.is("JUDGE, 1", told(9, "1", "0", 1), 1);
        due.is("JUDGE, 2", told(9, "2", "0", 1), 2);
        due.is("JUDGE, 99", told(9, "99", "0", 1), 99);
        due.promise(13, "YOUNG: \"TAKES MORE more\"");
        due.is("0 and 1", told(11, "0", "0", 1), 1);
        due.is("0 and 2", told(12, "0", "0", 1), 2);
        due.is("1 and 0", told(10, "1", "0", 1), 1);
        due.is("1 and 9", told(19, "1", "0", 1), 10);
        due.is("99 and 9", told(19, "100", "0", 1), 108);
        due.is("LUCKY, 99 and 9", told(39, "100", "0", 1), 108);
        due.promise(13, "APPEAL: \"TAKES twice\"");
        due.is("1", told(49, "1", "0", 1), 2);
        due.is("99", told(49, "100", "0", 1), 198);
        due.promise(13, "\"Whatever isn't told is as of the KIND above\", TAKES");
        due.is("WIDOW", told(29, "50", "0", 1), 50);
        due.is("OLD", told(59, "50", "0", 1), 50);
        due.is("LUCKY", told(39, "50", "0", 1), 59);
    }

    private static void judgesSo() {
        due.promise(13, "\"how hard one JUDGES (2; 1000 more)\"");
        due.is("JUDGE, 0", told(9, "0", "0", 2), 1000);
        due.is("JUDGE, 99", told(9, "0", "100", 2), 1099);
        due.is("JUDGE, -99", told(9, "0", "-100", 2), 901);
        due.promise(13, "WIDOW: \"JUDGES MORE more\"");
        due.is("99 and 9", told(29, "0", "100", 2), 1108);
        due.is("-99 and 9", told(29, "0", "-100", 2), 910);
        due.is("0 and 0", told(20, "0", "0", 2), 1000);
        due.is("APPEAL, 99 and 9", told(49, "0", "100", 2), 1108);
        due.promise(13, "LUCKY: \"JUDGES half (cut toward 0)\"");
        due.is("1", told(39, "0", "1", 2), 1000);
        due.is("-1", told(39, "0", "-1", 2), 1000);
        due.is("2", told(39, "0", "2", 2), 1001);
        due.is("-2", told(39, "0", "-2", 2), 999);
        due.is("3", told(39, "0", "3", 2), 1001);
        due.is("-3", told(39, "0", "-3", 2), 999);
        due.is("99", told(39, "0", "99", 2), 1049);
        due.is("-99", told(39, "0", "-99", 2), 951);
        due.promise(13, "OLD: \"JUDGES 0 less what the text says\"");
        due.is("0", told(59, "0", "0", 2), 1000);
        due.is("99", told(59, "0", "99", 2), 901);
        due.is("-99", told(59, "0", "-99", 2), 1099);
        due.promise(13, "\"Whatever isn't told is as of the KIND above\", JUDGES");
        due.is("YOUNG", told(19, "0", "50", 2), 1050);
    }
}
