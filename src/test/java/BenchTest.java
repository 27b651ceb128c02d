/** Promises 1 to 4, 6 to 13: the bench, the law, cases. */
public final class BenchTest {
    private static final Due due = new Due();

    public static void main(String[] args) {
        newObject();
        count();
        dawn();
        feed();
        force();
        asks();
        judge();
        file();
        put();
        told();
        paper();
        hearing();
        mayByKind();
        takesByKind();
        judgesByKind();
        due.end();
    }

    private static void newObject() {
        due.promise(1, "a new object");
        JudgesByLoss x = new JudgesByLoss();
        long[] counts = {0, 0, 0, 1, 0, 0, 0};
        for (int what = 0; what < counts.length; what++) {
            due.is("count(" + what + ")", x.count(what), counts[what]);
        }
        for (int i = 0; i < 6; i++) {
            due.is("told(" + i + ", 0)", x.told(i, 0), -5);
        }
        for (int c = 0; c < 8; c++) {
            due.is("paper(" + c + ", 0)", x.paper(c, 0), -6);
        }
        for (int s = 0; s < 4; s++) {
            due.is("cell(" + s + ", 0, 0)", x.cell(s, 0, 0), -11);
        }
        due.is("back()", x.back(), JudgesByLoss.STATE);
        JudgesByLoss other = new JudgesByLoss();
        x.judge(0, 0, 0);
        due.is("count(0) of another object", other.count(0), 0);
    }

    private static void count() {
        due.promise(2, "count");
        JudgesByLoss x = new JudgesByLoss();
        x.judge(0, 1, 50);
        x.judge(0, 0, 50);
        x.file(1, 5);
        x.file(2, 5);
        x.file(4, 5);
        x.hear(0, 0);
        Due.read(x, "needs 1;takes 1;judges 1;");
        x.force(1);
        x.feed(3, 1, 2, 3, 0, 0);
        x.dawn(77);
        long[] counts = {2, 2, 1, 2, 1, 3, 77};
        for (int what = 0; what < counts.length; what++) {
            due.is("count(" + what + ")", x.count(what), counts[what]);
        }
        due.is("count(-1)", x.count(-1), -2);
        due.is("count(7)", x.count(7), -2);
        due.is("count(min)", x.count(Integer.MIN_VALUE), -2);
    }

    private static void dawn() {
        due.promise(3, "dawn");
        JudgesByLoss x = new JudgesByLoss();
        due.is("dawn(999)", x.dawn(999), 0);
        due.is("dawn(1000)", x.dawn(1000), -2);
        due.is("dawn(-1)", x.dawn(-1), -2);
        due.is("dawn(0)", x.dawn(0), 999);
        due.is("count(6)", x.count(6), 0);
    }

    private static void feed() {
        due.promise(4, "feed");
        JudgesByLoss x = new JudgesByLoss();
        due.is("n 0", x.feed(0, 1, 1, 1, 1, 1), -2);
        due.is("n 6", x.feed(6, 1, 1, 1, 1, 1), -2);
        due.is("n -1", x.feed(-1, 1, 1, 1, 1, 1), -2);
        for (int i = 0; i < 5; i++) {
            int[] v = {0, 0, 0, 0, 0};
            v[i] = 256;
            due.is("256 at " + i, x.feed(1, v[0], v[1], v[2], v[3], v[4]), -2);
            v[i] = -1;
            due.is("-1 at " + i, x.feed(1, v[0], v[1], v[2], v[3], v[4]), -2);
        }
        due.is("count(5)", x.count(5), 0);
        due.is("one", x.feed(1, 255, 0, 0, 0, 0), 1);
        due.is("five", x.feed(5, 0, 255, 0, 255, 0), 6);
        for (int i = 0; i < 30; i++) {
            x.feed(5, 32, 32, 32, 32, 32);
        }
        due.is("up to 158", x.feed(2, 1, 1, 0, 0, 0), 158);
        due.is("three more", x.feed(3, 1, 1, 1, 1, 1), -4);
        due.is("count(5)", x.count(5), 158);
        due.is("BAD ahead of FULL", x.feed(5, 1, 1, 1, 1, 256), -2);
        due.is("two more", x.feed(2, 1, 1, 1, 1, 1), 160);
        due.is("one more", x.feed(1, 1, 1, 1, 1, 1), -4);

        JudgesByLoss y = new JudgesByLoss();
        String text = "needs 11;takes 22;judges 33;";
        for (int i = 0; i < text.length(); i += 4) {
            y.feed(4, text.charAt(i), text.charAt(i + 1), text.charAt(i + 2), text.charAt(i + 3), 'x');
        }
        due.is("by four", y.text(), 1);
    }

    private static void force() {
        due.promise(6, "force");
        JudgesByLoss x = new JudgesByLoss();
        due.is("force(1) too early", x.force(1), -2);
        due.is("force(0)", x.force(0), 0);
        Due.read(x, "needs 1;takes 1;judges 1;");
        Due.read(x, "needs 2;takes 2;judges 2;");
        due.is("force(2)", x.force(2), 0);
        due.is("force(3)", x.force(3), -2);
        due.is("force(-1)", x.force(-1), -2);
        due.is("count(4)", x.count(4), 2);
        due.is("force(1)", x.force(1), 2);
    }

    private static void asks() {
        due.promise(7, "asks");
        JudgesByLoss x = new JudgesByLoss();
        x.judge(53, 1, 10);
        x.file(35, 9);
        due.is("needs", x.asks(0, 0, 0), 9);
        due.is("takes", x.asks(1, 0, 0), 3);
        due.is("judges, as the text says", x.asks(2, 0, 0), 10);
        due.is("part -1", x.asks(-1, 0, 0), -1000);
        due.is("part 3", x.asks(3, 0, 0), -1000);
        due.is("judge 1", x.asks(0, 1, 0), -1000);
        due.is("judge -1", x.asks(0, -1, 0), -1000);
        due.is("case 1", x.asks(0, 0, 1), -1000);
        due.is("case 8", x.asks(0, 0, 8), -1000);
        due.is("case -1", x.asks(0, 0, -1), -1000);
        Due.read(x, "needs 100;takes 100;judges 100;");
        Due.read(x, "needs -1;takes -1;judges -100;");
        x.force(1);
        due.is("needs at most", x.asks(0, 0, 0), 99);
        due.is("takes at most", x.asks(1, 0, 0), 99);
        due.is("judges at most", x.asks(2, 0, 0), 99);
        x.force(2);
        due.is("needs at least", x.asks(0, 0, 0), 0);
        due.is("takes at least", x.asks(1, 0, 0), 0);
        due.is("judges at least", x.asks(2, 0, 0), -99);
    }

    private static void judge() {
        due.promise(8, "judge");
        JudgesByLoss x = new JudgesByLoss();
        due.is("kindMore -1", x.judge(-1, 0, 0), -2);
        due.is("kindMore 60", x.judge(60, 0, 0), -2);
        due.is("own -1", x.judge(0, -1, 0), -2);
        due.is("own 1024", x.judge(0, 1024, 0), -2);
        due.is("minds -1", x.judge(0, 0, -1), -2);
        due.is("minds 100", x.judge(0, 0, 100), -2);
        due.is("count(0)", x.count(0), 0);
        due.is("the first", x.judge(59, 1023, 99), 0);
        for (int p = 1; p < 6; p++) {
            due.is("judge " + p, x.judge(0, 0, 0), p);
        }
        due.is("the seventh", x.judge(0, 0, 0), -4);
        due.is("a bad seventh", x.judge(0, 0, 100), -2);
        long[] want = {1023, 99, 0, 5, 9};
        for (int what = 0; what < 5; what++) {
            due.is("told(0, " + what + ")", x.told(0, what), want[what]);
            due.is("told(1, " + what + ")", x.told(1, what), 0);
        }

        JudgesByLoss y = new JudgesByLoss();
        y.image();
        y.judge(0, 0, 0);
        y.put(0, 2, 9);
        y.back();
        y.judge(0, 0, 0);
        due.is("BUSY as one comes", y.told(0, 2), 0);
    }

    private static void file() {
        due.promise(9, "file");
        JudgesByLoss x = new JudgesByLoss();
        due.is("no things", x.file(0, 0), -2);
        due.is("things 1024", x.file(1024, 0), -2);
        due.is("things -1", x.file(-1, 0), -2);
        due.is("hardness -1", x.file(1, -1), -2);
        due.is("hardness 100", x.file(1, 100), -2);
        due.is("the first", x.file(1023, 99), 0);
        for (int c = 1; c < 8; c++) {
            due.is("case " + c, x.file(c, 0), c);
        }
        due.is("the ninth", x.file(1, 0), -4);
        due.is("a bad ninth", x.file(0, 0), -2);
        x.day();
        due.is("WAITED", x.paper(3, 2), 1);
        x.judge(0, 1023, 0);
        x.hear(0, 3);
        due.is("in the gap", x.file(8, 7), 3);
        due.is("ABOUT", x.paper(3, 0), 8);
        due.is("HARD", x.paper(3, 1), 7);
        due.is("WAITED as it comes", x.paper(3, 2), 0);
    }

    private static void put() {
        due.promise(10, "put");
        JudgesByLoss x = new JudgesByLoss();
        x.judge(0, 5, 6);
        due.is("LOST", x.put(0, 0, 1023), 5);
        due.is("MIND", x.put(0, 1, 99), 6);
        due.is("BUSY", x.put(0, 2, 99), 0);
        due.is("LOST 1024", x.put(0, 0, 1024), -7);
        due.is("MIND 100", x.put(0, 1, 100), -7);
        due.is("BUSY 100", x.put(0, 2, 100), -7);
        due.is("LOST -1", x.put(0, 0, -1), -7);
        due.is("BUSY -1", x.put(0, 2, -1), -7);
        due.is("what 3", x.put(0, 3, 0), -7);
        due.is("what -1", x.put(0, -1, 0), -7);
        due.is("judge 1", x.put(1, 0, 0), -5);
        due.is("judge 1 ahead of what", x.put(1, 9, 9999), -5);
        due.is("judge -1", x.put(-1, 0, 0), -5);
        due.is("LOST then", x.put(0, 0, 0), 1023);
        due.is("MIND then", x.put(0, 1, 0), 99);
        due.is("BUSY then", x.put(0, 2, 0), 99);
        Due.read(x, "needs 0;takes 99;judges 0;");
        x.force(1);
        x.judge(19, 1, 0);
        x.file(1, 0);
        x.hear(1, 0);
        due.is("BUSY above 99", x.put(1, 2, 4), 108);
    }

    private static void told() {
        due.promise(11, "told");
        JudgesByLoss x = new JudgesByLoss();
        x.judge(37, 515, 44);
        x.put(0, 2, 3);
        x.file(128, 99);
        x.file(7, 44);
        x.file(3, 0);
        long[] want = {515, 44, 3, 3, 7, 3};
        for (int what = 0; what < want.length; what++) {
            due.is("told(0, " + what + ")", x.told(0, what), want[what]);
        }
        due.is("what 6", x.told(0, 6), -7);
        due.is("what -1", x.told(0, -1), -7);
        due.is("judge 1", x.told(1, 0), -5);
        due.is("judge 1 ahead of what", x.told(1, 6), -5);
        due.is("judge 6", x.told(6, 0), -5);
    }

    private static void paper() {
        due.promise(12, "paper");
        JudgesByLoss x = new JudgesByLoss();
        x.file(6, 20);
        x.judge(0, 6, 19);
        x.judge(0, 6, 20);
        x.judge(10, 4, 20);
        x.judge(0, 4, 20);
        x.put(1, 2, 5);
        long[] want = {6, 20, 0, 6};
        for (int what = 0; what < want.length; what++) {
            due.is("paper(0, " + what + ")", x.paper(0, what), want[what]);
        }
        due.is("what 4", x.paper(0, 4), -7);
        due.is("what -1", x.paper(0, -1), -7);
        due.is("case 1", x.paper(1, 0), -6);
        due.is("case 1 ahead of what", x.paper(1, 4), -6);
        due.is("case 8", x.paper(8, 0), -6);
        due.is("case -1", x.paper(-1, 0), -6);
    }

    private static void hearing() {
        due.promise(13, "hearing");
        JudgesByLoss x = new JudgesByLoss();
        x.judge(12, 3, 21);
        x.file(7, 21);
        x.put(0, 2, 50);
        due.is("MAY, though BUSY", x.hearing(0, 0, 0), 1);
        due.is("TAKES", x.hearing(0, 0, 1), 5);
        due.is("JUDGES", x.hearing(0, 0, 2), 1021);
        due.is("what 3", x.hearing(0, 0, 3), -7);
        due.is("what -1", x.hearing(0, 0, -1), -7);
        due.is("case 1", x.hearing(0, 1, 9), -6);
        due.is("case 8", x.hearing(0, 8, 0), -6);
        due.is("judge 1", x.hearing(1, 1, 9), -5);
        due.is("judge -1", x.hearing(-1, 0, 0), -5);
    }

    /** One judge, who may hear a case about these things, so hard, on this day. */
    private static int may(int kindMore, int own, int minds, int things, int hardness, int day) {
        JudgesByLoss x = new JudgesByLoss();
        x.dawn(day);
        x.judge(kindMore, own, minds);
        x.file(things, hardness);
        return x.hearing(0, 0, 0);
    }

    private static void mayByKind() {
        due.promise(13, "hearing, MAY by KINDS");
        due.is("JUDGE", may(0, 7, 20, 7, 20, 0), 1);
        due.is("JUDGE minds less", may(0, 7, 19, 7, 20, 0), 0);
        due.is("JUDGE lost less", may(0, 3, 99, 7, 20, 0), 0);
        due.is("JUDGE lost more", may(0, 1023, 99, 7, 20, 0), 1);
        due.is("YOUNG", may(14, 3, 20, 7, 20, 0), 1);
        due.is("YOUNG minds less", may(14, 3, 19, 7, 20, 0), 0);
        due.is("YOUNG lost two less", may(14, 1, 99, 7, 0, 0), 0);
        due.is("YOUNG lost nothing", may(14, 0, 0, 512, 0, 0), 1);
        due.is("WIDOW too early", may(23, 7, 20, 7, 20, 2), 0);
        due.is("WIDOW", may(23, 7, 20, 7, 20, 3), 1);
        due.is("WIDOW ten days later", may(23, 7, 20, 7, 20, 12), 0);
        due.is("WIDOW of MORE 1, day 10", may(21, 7, 20, 7, 20, 10), 0);
        due.is("WIDOW of MORE 1, day 11", may(21, 7, 20, 7, 20, 11), 1);
        due.is("WIDOW of MORE 0", may(20, 7, 20, 7, 20, 10), 1);
        due.is("WIDOW of MORE 9", may(29, 7, 20, 7, 20, 999), 1);
        due.is("WIDOW lost less", may(23, 3, 20, 7, 20, 3), 0);
        due.is("WIDOW minds less", may(23, 7, 19, 7, 20, 3), 0);
        due.is("LUCKY, just THING MORE", may(34, 0, 0, 16, 99, 0), 1);
        due.is("LUCKY, another THING", may(34, 1023, 99, 8, 0, 0), 0);
        due.is("LUCKY, two THINGS", may(34, 1023, 99, 24, 0, 0), 0);
        due.is("LUCKY, three THINGS", may(34, 3, 20, 7, 20, 0), 1);
        due.is("LUCKY minds less", may(34, 3, 19, 7, 20, 0), 0);
        due.is("LUCKY lost two less", may(34, 1, 99, 7, 20, 0), 0);
        due.is("APPEAL", may(42, 7, 40, 7, 20, 2), 1);
        due.is("APPEAL minds less than twice", may(42, 7, 39, 7, 20, 2), 0);
        due.is("APPEAL too early", may(42, 7, 40, 7, 20, 1), 0);
        due.is("APPEAL of MORE 2, day 11", may(42, 7, 40, 7, 20, 11), 0);
        due.is("APPEAL of MORE 2, day 12", may(42, 7, 40, 7, 20, 12), 1);
        due.is("APPEAL lost less", may(42, 3, 99, 7, 20, 2), 0);
        due.is("APPEAL, twice above 99", may(40, 7, 99, 7, 50, 0), 0);
        due.is("OLD", may(55, 0, 0, 7, 99, 5), 1);
        due.is("OLD a week later", may(55, 0, 0, 7, 99, 12), 1);
        due.is("OLD a day later", may(55, 1023, 99, 7, 0, 6), 0);
        for (int day = 0; day < 14; day++) {
            due.is("OLD of MORE 7, day " + day, may(57, 1023, 99, 7, 0, day), 0);
        }
    }

    /** What hearing() tells, by a law that takes and judges so. */
    private static int told(int kindMore, int takes, int judges, int what) {
        JudgesByLoss x = new JudgesByLoss();
        String sign = judges < 0 ? "-" : "";
        Due.read(x, "needs 99;takes " + takes + ";judges " + sign + Math.abs(judges) + ";");
        x.force(1);
        x.judge(kindMore, 0, 0);
        x.file(1, 0);
        return x.hearing(0, 0, what);
    }

    private static void takesByKind() {
        due.promise(13, "hearing, TAKES by KINDS");
        due.is("JUDGE", told(4, 6, 0, 1), 6);
        due.is("YOUNG", told(14, 6, 0, 1), 10);
        due.is("WIDOW", told(24, 6, 0, 1), 6);
        due.is("LUCKY", told(34, 6, 0, 1), 10);
        due.is("APPEAL", told(44, 6, 0, 1), 12);
        due.is("OLD", told(54, 6, 0, 1), 6);
        due.is("JUDGE at least", told(4, 0, 0, 1), 1);
        due.is("YOUNG of MORE 0 at least", told(10, 0, 0, 1), 1);
        due.is("YOUNG of MORE 3", told(13, 0, 0, 1), 3);
        due.is("APPEAL at least", told(44, 0, 0, 1), 1);
        due.is("YOUNG at most", told(19, 99, 0, 1), 108);
        due.is("APPEAL at most", told(49, 99, 0, 1), 198);
    }

    private static void judgesByKind() {
        due.promise(13, "hearing, JUDGES by KINDS");
        due.is("JUDGE", told(4, 0, 7, 2), 1007);
        due.is("YOUNG", told(14, 0, 7, 2), 1007);
        due.is("WIDOW", told(24, 0, 7, 2), 1011);
        due.is("LUCKY", told(34, 0, 7, 2), 1003);
        due.is("APPEAL", told(44, 0, 7, 2), 1011);
        due.is("OLD", told(54, 0, 7, 2), 993);
        due.is("JUDGE below 0", told(4, 0, -7, 2), 993);
        due.is("LUCKY below 0", told(34, 0, -7, 2), 997);
        due.is("OLD below 0", told(54, 0, -7, 2), 1007);
        due.is("WIDOW at most", told(29, 0, 99, 2), 1108);
        due.is("JUDGE at least", told(0, 0, -99, 2), 901);
    }
}
