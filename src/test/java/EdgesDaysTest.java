/** The boundaries that the document names in '2 A JUDGE CAN hear' and promises 14 to 24, sentence by sentence. */
public final class EdgesDaysTest {
    private static final Due due = new Due();
    private static final int MIN = Integer.MIN_VALUE, MAX = Integer.MAX_VALUE;

    public static void main(String[] args) {
        canHear();
        hearingsLoss();
        hearingsMind();
        hearingsBusy();
        hearingsRest();
        toldAhead();
        rob();
        dayAndBusy();
        dayAndWaited();
        dayInTurn();
        dayToItsEnd();
        run();
        runOfMany();
        past999();
        when();
        sitting();
        sittingElsewhere();
        burglary();
        burglaryOfEachThing();
        wants();
        fullest();
        cruel();
        ruin();
        due.end();
    }

    /** The law: needs nothing, takes and judges so. */
    private static JudgesByLoss lawful(String takes, String judges) {
        JudgesByLoss x = new JudgesByLoss();
        Due.readByFives(x, "needs 0;takes " + takes + ";judges " + judges + ";");
        x.force(1);
        return x;
    }

    // ---- promise 14

    private static void canHear() {
        due.promise(14, "\"CAN hear a CASE that is there, if BUSY is 0, and that one MAY\"");
        int[] busy = {0, 1, 99};
        for (int v : busy) {
            JudgesByLoss x = lawful("1", "0");
            x.judge(0, 1, 0);
            x.file(1, 0);
            x.put(0, 2, v);
            due.is("BUSY " + v, x.hear(0, 0), v == 0 ? 1000 : -3);
        }
        due.promise(14, "\"STATE: one CAN'T\"");
        JudgesByLoss x = new JudgesByLoss();
        x.judge(0, 1, 9);
        x.file(1, 10);
        x.file(3, 9);
        x.file(1, 9);
        due.is("MIND is one less", x.hear(0, 0), -3);
        due.is("one THING isn't LOST", x.hear(0, 1), -3);
        due.is("as much, and LOST", x.hear(0, 2), 1009);
        due.promise(14, "\"-5: none such\"");
        int[] nobody = {-1, 1, 6, MIN, MAX};
        for (int p : nobody) {
            due.is("judge " + p, x.hear(p, 1), -5);
        }
        due.promise(14, "\"-6: it isn't there\"");
        int[] none = {-1, 2, 3, 8, MIN, MAX};
        for (int c : none) {
            due.is("case " + c, x.hear(0, c), -6);
        }
    }

    private static void loss(String what, int kindMore, int own, int things, int lost) {
        JudgesByLoss x = lawful("1", "0");
        x.judge(kindMore, own, 0);
        x.file(things, 0);
        due.is(what, x.hear(0, 0), 1000);
        due.is(what + ", LOST", x.told(0, 0), lost);
    }

    private static void hearingsLoss() {
        due.promise(14, "\"the least of the THINGS that are LOST and that it is ABOUT isn't LOST any more\"");
        loss("one THING, the least", 0, 1, 1, 0);
        loss("one THING, the greatest", 0, 512, 512, 0);
        loss("all ten", 0, 1023, 1023, 1022);
        loss("one LOST that it isn't ABOUT stands ahead", 0, 7, 6, 5);
        loss("one that it is ABOUT that isn't LOST stands ahead", 10, 2, 3, 0);
        loss("others stand behind", 0, 1008, 512 + 32, 1008 - 32);
        due.promise(14, "\"(there may be none)\"");
        loss("nothing LOST", 30, 0, 1, 0);
        loss("nothing of it LOST", 50, 6, 1, 6);
        loss("a YOUNG, nothing of it LOST", 10, 1022, 1, 1022);
    }

    private static void mind(String judges, int kindMore, int minds, int told, int then) {
        JudgesByLoss x = lawful("1", judges);
        x.judge(kindMore, 1, minds);
        x.file(1, 0);
        due.is(minds + " and " + judges, x.hear(0, 0), 1000 + told);
        due.is("MIND then", x.told(0, 1), then);
    }

    private static void hearingsMind() {
        due.promise(14, "\"MIND is more by how hard one JUDGES (0 .. 99, else the bound)\"");
        mind("0", 0, 0, 0, 0);
        mind("0", 0, 99, 0, 99);
        mind("1", 0, 98, 1, 99);
        mind("1", 0, 99, 1, 99);
        mind("99", 0, 0, 99, 99);
        mind("100", 0, 50, 99, 99);
        mind("-1", 0, 1, -1, 0);
        mind("-1", 0, 0, -1, 0);
        mind("-99", 0, 99, -99, 0);
        mind("-100", 0, 99, -99, 0);
        mind("-98", 0, 99, -98, 1);
        mind("99", 20, 0, 99, 99);
        mind("-99", 50, 0, 99, 99);
        mind("99", 50, 99, -99, 0);
    }

    private static void busy(String takes, int kindMore, int then) {
        JudgesByLoss x = lawful(takes, "0");
        x.judge(kindMore, 1, 0);
        x.file(1, 0);
        due.is("it TAKES " + takes, x.hear(0, 0), 1000);
        due.is("BUSY of KIND and MORE " + kindMore, x.told(0, 2), then);
    }

    private static void hearingsBusy() {
        due.promise(14, "\"BUSY is as long as it TAKES (above 99, too)\"");
        busy("0", 0, 1);
        busy("1", 0, 1);
        busy("99", 0, 99);
        busy("100", 0, 99);
        busy("0", 10, 1);
        busy("99", 11, 100);
        busy("99", 19, 108);
        busy("50", 40, 100);
        busy("99", 40, 198);
    }

    private static void hearingsRest() {
        due.promise(14, "\"the CASE isn't there any more; HEARD is 1 more\"");
        JudgesByLoss x = lawful("1", "0");
        x.judge(0, 1023, 0);
        for (int c = 0; c < 8; c++) {
            x.file(512, 0);
        }
        x.hear(0, 7);
        due.is("case 7", x.paper(7, 0), -6);
        due.is("case 6", x.paper(6, 0), 512);
        due.is("CASES", x.count(1), 7);
        due.is("HEARD", x.count(2), 1);
        due.is("DAY stays", x.count(6), 0);
        due.is("WAITED stays", x.paper(0, 2), 0);
        due.is("hear it again", x.hear(0, 7), -6);
        due.promise(14, "a refused hearing isn't HEARD");
        due.is("BUSY", x.hear(0, 0), -3);
        due.is("HEARD", x.count(2), 1);
    }

    private static void toldAhead() {
        due.promise(14, "\"(JUDGES, TAKES told ahead)\"");
        JudgesByLoss x = new JudgesByLoss();
        Due.readByFives(x, "needs 0;takes lost+mind;judges lost*10;");
        x.force(1);
        x.judge(0, 3, 20);
        x.file(1, 0);
        due.is("JUDGES by what was LOST", x.hear(0, 0), 1020);
        due.is("TAKES by what was LOST, and by MIND ahead", x.told(0, 2), 22);
        due.is("MIND", x.told(0, 1), 40);
        JudgesByLoss y = new JudgesByLoss();
        Due.readByFives(y, "needs 0;takes 9-mind;judges 5;");
        y.force(1);
        y.judge(0, 1, 2);
        y.file(1, 0);
        y.hear(0, 0);
        due.is("TAKES by MIND ahead", y.told(0, 2), 7);
    }

    // ---- promise 15

    private static void rob() {
        due.promise(15, "\"THINGS (bits)\"");
        JudgesByLoss x = new JudgesByLoss();
        x.judge(0, 0, 0);
        due.is("none of none", x.rob(0, 0), 0);
        due.is("all", x.rob(0, 1023), 1023);
        due.is("none of all", x.rob(0, 0), 1023);
        due.is("the greatest", x.rob(0, 512), 511);
        due.is("the least", x.rob(0, 1), 510);
        due.is("both again", x.rob(0, 513), 1023);
        due.is("all, not any more", x.rob(0, 1023), 0);
        due.promise(15, "\"-7: things\"");
        int[] bad = {-1, 1024, MIN, MAX};
        for (int things : bad) {
            due.is("things " + things, x.rob(0, things), -7);
        }
        due.promise(15, "\"-5: none such\"");
        int[] nobody = {-1, 1, 6, MIN, MAX};
        for (int p : nobody) {
            due.is("judge " + p, x.rob(p, 1), -5);
        }
        due.is("LOST is what it was", x.told(0, 0), 0);
    }

    // ---- promise 16

    private static void dayAndBusy() {
        due.promise(16, "\"first BUSY of all is 1 less (0 at least)\"");
        JudgesByLoss x = lawful("1", "0");
        x.judge(0, 1, 0);
        x.judge(0, 2, 0);
        x.judge(0, 4, 0);
        x.put(1, 2, 1);
        x.put(2, 2, 2);
        x.file(512, 0);
        due.is("nobody may", x.day(), 0);
        due.is("0", x.told(0, 2), 0);
        due.is("1", x.told(1, 2), 0);
        due.is("2", x.told(2, 2), 1);
        due.is("nobody may", x.day(), 0);
        due.is("0", x.told(1, 2), 0);
        due.is("1", x.told(2, 2), 0);
        due.promise(16, "BUSY 1 CAN on this day, BUSY 2 can't");
        JudgesByLoss y = lawful("1", "0");
        y.judge(0, 1, 0);
        y.judge(0, 2, 0);
        y.put(0, 2, 1);
        y.put(1, 2, 2);
        y.file(1, 0);
        y.file(2, 0);
        due.is("BUSY 1", y.day(), 1);
        due.is("BUSY 2", y.day(), 2);
        due.promise(16, "one who heard is BUSY from the next day on");
        JudgesByLoss z = lawful("2", "0");
        z.judge(0, 1, 0);
        z.file(1, 0);
        z.day();
        due.is("as long as it TAKES", z.told(0, 2), 2);
        z.day();
        due.is("1 less", z.told(0, 2), 1);
        JudgesByLoss w = lawful("99", "0");
        w.judge(40, 1, 0);
        w.file(1, 0);
        w.day();
        due.is("above 99", w.told(0, 2), 198);
        w.day();
        due.is("above 99, 1 less", w.told(0, 2), 197);
    }

    private static void dayAndWaited() {
        due.promise(16, "\"if there is none, WAITED is 1 more (99 at most)\"");
        JudgesByLoss x = lawful("1", "0");
        x.file(1, 0);
        for (int i = 1; i <= 101; i++) {
            due.is("there are no JUDGES", x.day(), 0);
            due.is("WAITED behind " + i, x.paper(0, 2), Math.min(99, i));
        }
        due.promise(16, "a CASE that is heard doesn't wait");
        x.judge(0, 3, 0);
        x.file(2, 0);
        due.is("case 0", x.day(), 1);
        due.is("case 1, WAITED", x.paper(1, 2), 1);
        x.file(512, 0);
        due.is("in its place, WAITED 0", x.paper(0, 2), 0);
        due.promise(16, "a CASE that isn't there doesn't wait");
        x.image();
        x.day();
        x.file(1, 0);
        due.is("the one that comes, WAITED", x.paper(1, 2), 0);
    }

    private static void dayInTurn() {
        due.promise(16, "\"CASE by CASE, by numbers .. the first of JUDGES who CAN hear it, does\"");
        JudgesByLoss x = lawful("1", "0");
        for (int p = 0; p < 6; p++) {
            x.judge(0, 1023, 0);
        }
        for (int c = 0; c < 8; c++) {
            x.file(1 << c, 0);
        }
        due.is("six by six", x.day(), 63);
        for (int p = 0; p < 6; p++) {
            due.is("judge " + p + " heard case " + p, x.told(p, 0), 1023 - (1 << p));
        }
        due.is("case 6, WAITED", x.paper(6, 2), 1);
        due.is("case 7, WAITED", x.paper(7, 2), 1);
        due.is("the others", x.day(), 192);
        due.is("judge 0 heard case 6", x.told(0, 0), 1023 - 1 - 64);
        due.is("judge 2 heard none", x.told(2, 0), 1023 - 4);
        due.is("nothing is left", x.day(), 0);
        due.is("HEARD", x.count(2), 8);
        due.promise(16, "\"(All told as it is then.)\"");
        JudgesByLoss y = new JudgesByLoss();
        Due.readByFives(y, "needs hard;takes 0;judges 10;");
        y.force(1);
        y.judge(0, 3, 0);
        y.file(2, 10);
        y.file(1, 0);
        due.is("MIND is too little when case 0 comes", y.day(), 2);
        due.is("MIND is enough on the next day", y.day(), 1);
        due.promise(16, "\"At last DAY is 1 more\"");
        JudgesByLoss z = new JudgesByLoss();
        z.judge(53, 0, 0);
        z.file(1, 0);
        z.dawn(2);
        due.is("DAY 2", z.day(), 0);
        due.is("DAY then", z.count(6), 3);
        due.is("DAY 3", z.day(), 1);
        due.is("DAY then", z.count(6), 4);
    }

    private static void dayToItsEnd() {
        due.promise(16, "\"STATE: DAY is 999\"");
        JudgesByLoss x = lawful("1", "0");
        x.judge(0, 3, 0);
        x.file(1, 0);
        x.file(2, 0);
        x.dawn(998);
        due.is("DAY 998", x.day(), 1);
        due.is("DAY then", x.count(6), 999);
        due.is("DAY 999", x.day(), -3);
        due.is("DAY stays", x.count(6), 999);
        due.is("BUSY stays", x.told(0, 2), 1);
        due.is("WAITED stays", x.paper(1, 2), 1);
        due.is("HEARD stays", x.count(2), 1);
        x.dawn(998);
        due.is("once more", x.day(), 2);
        due.promise(16, "no JUDGES, no CASES");
        JudgesByLoss y = new JudgesByLoss();
        due.is("none is heard", y.day(), 0);
        due.is("DAY", y.count(6), 1);
    }

    // ---- promises 17 and 18

    private static void run() {
        due.promise(17, "\"n DAYS (0 .. 40)\"");
        JudgesByLoss x = lawful("1", "1");
        x.judge(0, 3, 50);
        x.file(1, 0);
        x.file(2, 0);
        x.put(0, 2, 40);
        long[][] want = {{3, 0, 0, 50, 3}, {3, 0, 78, 50, 3}, {2, 1, 40, 51, 2}};
        int[] days = {0, 39, 40};
        int[] whats = {0, 1, 2, 10, 20};
        for (int i = 0; i < days.length; i++) {
            for (int k = 0; k < whats.length; k++) {
                due.is(days[i] + " days, what " + whats[k], x.run(days[i], whats[k]), want[i][k]);
            }
        }
        due.promise(17, "\"BAD\", n");
        int[] bad = {-1, 41, MIN, MAX};
        for (int n : bad) {
            due.is("n " + n, x.run(n, 0), -2);
        }
        due.promise(17, "\"BAD\", what");
        int[] whatsBad = {-1, 3, 9, 11, 19, 21, 29, 30, MIN, MAX};
        for (int what : whatsBad) {
            due.is("what " + what, x.run(1, what), -2);
        }
        JudgesByLoss y = new JudgesByLoss();
        due.promise(17, "there are no JUDGES");
        due.is("MIND of judge 0", y.run(1, 10), -2);
        due.is("LOST of judge 0", y.run(1, 20), -2);
        due.is("CASES", y.run(40, 0), 0);
        due.is("heard", y.run(40, 1), 0);
        due.is("WAITED", y.run(40, 2), 0);
    }

    private static void runOfMany() {
        due.promise(17, "\"MIND of JUDGE what less 10 (10 ..), LOST of JUDGE what less 20 (20 ..)\"");
        JudgesByLoss x = new JudgesByLoss();
        for (int p = 0; p < 6; p++) {
            x.judge(0, 1023 - p, 99 - p);
        }
        for (int p = 0; p < 6; p++) {
            due.is("MIND of " + p, x.run(40, 10 + p), 99 - p);
            due.is("LOST of " + p, x.run(40, 20 + p), 1023 - p);
        }
        due.is("MIND of 6", x.run(40, 16), -2);
        due.is("LOST of 6", x.run(40, 26), -2);
        due.promise(17, "\"WAITED of all that are there then, together\", 99 each at most");
        JudgesByLoss y = new JudgesByLoss();
        for (int c = 0; c < 8; c++) {
            y.file(1, 0);
        }
        due.is("none yet", y.run(0, 2), 0);
        due.is("eight by forty", y.run(40, 2), 320);
        for (int i = 0; i < 60; i++) {
            y.day();
        }
        due.is("behind 60, 39 more", y.run(39, 2), 792);
        due.is("behind 60, 40 more", y.run(40, 2), 792);
        due.is("all are there", y.run(40, 0), 255);
        y.judge(59, 0, 0);
        due.is("an OLD of MORE 9 hears none", y.run(40, 1), 0);
        y.judge(36, 0, 0);
        due.is("a LUCKY of another THING hears none", y.run(40, 1), 0);
        y.judge(30, 0, 0);
        due.is("a LUCKY hears all", y.run(40, 1), 8);
        due.is("none is there then", y.run(40, 0), 0);
        due.is("none WAITED then", y.run(40, 2), 0);
    }

    private static void past999() {
        due.promise(17, "\"in thought it may pass 999\"");
        for (int more = 0; more < 7; more++) {
            JudgesByLoss x = new JudgesByLoss();
            x.dawn(999);
            x.judge(50 + more, 0, 0);
            x.file(1, 0);
            // day 999 is 5 modulo 7
            int behind = (more + 2) % 7 + 1;
            due.is("OLD of MORE " + more + ", the day ahead", x.run(behind - 1, 1), 0);
            due.is("OLD of MORE " + more, x.run(behind, 1), 1);
            due.promise(18, "\"in thought it may pass 999\"");
            due.is("OLD of MORE " + more, x.when(0), behind);
        }
        JudgesByLoss y = new JudgesByLoss();
        y.dawn(999);
        y.judge(25, 1, 0);
        y.file(1, 0);
        y.put(0, 2, 2);
        due.is("WIDOW, DAY 1005", y.when(0), 7);
        due.is("DAY stays", y.count(6), 999);
        due.is("day() is refused yet", y.day(), -3);
    }

    private static void when() {
        due.promise(18, "\"Behind how many DAYS (0 .. 60)\"");
        JudgesByLoss x = lawful("1", "0");
        due.is("no CASE, 0", x.when(8), 0);
        x.judge(0, 129, 0);
        x.file(1, 0);
        due.is("1", x.when(0), 1);
        x.put(0, 2, 59);
        due.is("59", x.when(0), 59);
        x.put(0, 2, 60);
        due.is("60", x.when(0), 60);
        due.is("no CASE, 60", x.when(8), 60);
        due.promise(18, "\"-1: not by then\"");
        x.put(0, 2, 61);
        due.is("61", x.when(0), -1);
        due.is("no CASE, 61", x.when(8), -1);
        due.promise(18, "\"no CASE (8) is there any more\"");
        x.put(0, 2, 60);
        x.file(128, 0);
        due.is("the one, 60", x.when(0), 60);
        due.is("the other, 61", x.when(1), -1);
        due.is("no CASE, 61", x.when(8), -1);
        x.put(0, 2, 59);
        due.is("the other, 60", x.when(1), 60);
        due.is("no CASE, 60", x.when(8), 60);
        due.promise(18, "\"-7: what\"");
        int[] bad = {-1, 9, MIN, MAX};
        for (int what : bad) {
            due.is("what " + what, x.when(what), -7);
        }
        due.promise(18, "\"-6: it isn't there\"");
        for (int c = 2; c < 8; c++) {
            due.is("case " + c, x.when(c), -6);
        }
        x.put(0, 2, 0);
        x.hear(0, 0);
        due.is("one that was heard", x.when(0), -6);
    }

    // ---- promises 19 to 24

    private static void sitting() {
        due.promise(19, "nobody, nothing");
        JudgesByLoss x = lawful("1", "0");
        due.is("how many, no JUDGES, no CASES", x.sitting(0), 0);
        due.is("by whom, no JUDGES, no CASES", x.sitting(1), 0);
        x.file(1, 0);
        due.is("how many, no JUDGES", x.sitting(0), 0);
        due.is("by whom, no JUDGES", x.sitting(1), 0);
        due.promise(19, "\"CASE 0's the highest\"");
        x.judge(0, 1, 0);
        due.is("case 0 by judge 0", x.sitting(1), 10000000);
        due.promise(19, "\"each CASE to one at most\"");
        x.judge(0, 1, 0);
        due.is("one CASE, two JUDGES", x.sitting(0), 1);
        due.is("the least number", x.sitting(1), 10000000);
        due.promise(19, "\"who CAN hear them now\"");
        x.put(0, 2, 1);
        due.is("the first is BUSY", x.sitting(1), 20000000);
        x.put(1, 2, 1);
        due.is("both are BUSY", x.sitting(0), 0);
        due.is("by nobody", x.sitting(1), 0);
        due.promise(19, "\"each JUDGE one at most\", \"of those of as many the least number\"");
        JudgesByLoss y = lawful("1", "0");
        y.judge(0, 3, 0);
        for (int c = 0; c < 8; c++) {
            y.file(1 + c % 2, 0);
        }
        due.is("one of eight", y.sitting(0), 1);
        due.is("the last of eight", y.sitting(1), 1);
        for (int p = 1; p < 6; p++) {
            y.judge(0, 3, 0);
        }
        due.is("six of eight", y.sitting(0), 6);
        due.is("the last six", y.sitting(1), 123456);
        due.promise(19, "more CASES go ahead of the least number");
        JudgesByLoss z = lawful("1", "0");
        z.judge(0, 1, 0);
        z.judge(0, 3, 0);
        z.file(2, 0);
        z.file(1, 0);
        due.is("two", z.sitting(0), 2);
        due.is("by whom", z.sitting(1), 21000000);
        due.promise(19, "\"BAD\"");
        int[] bad = {-1, 2, MIN, MAX};
        for (int what : bad) {
            due.is("what " + what, z.sitting(what), -2);
            due.promise(22, "\"BAD\"");
            due.is("what " + what, z.fullest(what), -2);
        }
    }

    private static void burglary() {
        due.promise(20, "\"n DAYS (0 .. 40)\"");
        JudgesByLoss x = lawful("1", "0");
        x.judge(0, 0, 0);
        x.file(512, 0);
        due.is("0 days", x.burglary(0, 0), -1);
        due.is("0 days, how many", x.burglary(0, 1), 0);
        due.is("1 day", x.burglary(1, 0), 9);
        due.is("1 day, how many", x.burglary(1, 1), 1);
        x.put(0, 2, 40);
        due.is("39 days", x.burglary(39, 0), -1);
        due.is("40 days", x.burglary(40, 0), 9);
        x.put(0, 2, 41);
        due.is("BUSY for 41", x.burglary(40, 0), -1);
        due.promise(20, "\"-1: none\", \"if more than so\"");
        x.put(0, 2, 0);
        x.put(0, 0, 512);
        due.is("as many as so", x.burglary(40, 0), -1);
        due.is("as so", x.burglary(40, 1), 1);
        x.put(0, 0, 1023);
        due.is("all is LOST", x.burglary(40, 0), -1);
        due.is("as so, all is LOST", x.burglary(40, 1), 1);
        due.promise(20, "there are no JUDGES, no CASES");
        JudgesByLoss y = lawful("1", "0");
        due.is("which", y.burglary(40, 0), -1);
        due.is("how many", y.burglary(40, 1), 0);
        y.file(512, 0);
        due.is("no JUDGES", y.burglary(40, 0), -1);
        for (int p = 0; p < 6; p++) {
            y.judge(0, p < 5 ? 0 : 511, 0);
            y.put(p, 2, p < 5 ? 99 : 0);
        }
        due.promise(20, "\"10 times a JUDGE, and a THING\", the greatest");
        due.is("the last of both", y.burglary(40, 0), 59);
        due.promise(20, "\"of like ones the first\"");
        y.put(4, 2, 0);
        due.is("a JUDGE ahead", y.burglary(40, 0), 49);
        y.file(2, 0);
        due.is("two CASES go ahead of the first THING", y.burglary(40, 0), 49);
        due.is("how many", y.burglary(40, 1), 2);
        y.rob(5, 2);
        due.is("one CASE by either, the THING ahead", y.burglary(40, 0), 41);
        due.is("how many", y.burglary(40, 1), 1);
        due.promise(20, "\"BAD\"");
        int[] bad = {-1, 41, MIN, MAX};
        for (int n : bad) {
            due.is("n " + n, y.burglary(n, 0), -2);
        }
        int[] whats = {-1, 2, MIN, MAX};
        for (int what : whats) {
            due.is("what " + what, y.burglary(1, what), -2);
        }
    }

    private static void burglaryOfEachThing() {
        due.promise(20, "\"a THING that isn't LOST\", the only one, each");
        for (int thing = 0; thing < 10; thing++) {
            JudgesByLoss x = lawful("1", "0");
            x.judge(0, 0, 0);
            x.file(1 << thing, 0);
            due.is("nothing else is LOST, THING " + thing, x.burglary(1, 0), thing);
            x.put(0, 0, 1023 - (1 << thing));
            due.is("all else is LOST, THING " + thing, x.burglary(1, 0), thing);
            due.is("how many, THING " + thing, x.burglary(1, 1), 1);
        }
        due.promise(20, "all THINGS are LOST: there is no eleventh");
        JudgesByLoss x = new JudgesByLoss();
        Due.readByFives(x, "needs 99*(lost<11);takes 1;judges 0;");
        x.force(1);
        x.judge(0, 1023, 0);
        x.file(1, 0);
        due.is("none", x.burglary(1, 0), -1);
        due.promise(21, "all THINGS are LOST: there is no eleventh");
        due.is("none", x.wants(0, 0, 0), -1);
    }

    private static void sittingElsewhere() {
        due.promise(19, "a JUDGE whom another CASE wants");
        JudgesByLoss x = lawful("1", "0");
        x.judge(0, 3, 0);
        x.judge(0, 1, 0);
        x.file(1, 0);
        x.file(2, 0);
        due.is("two", x.sitting(0), 2);
        due.is("the second hears case 0", x.sitting(1), 21000000);
        JudgesByLoss y = lawful("1", "0");
        y.judge(0, 4, 0);
        y.judge(0, 3, 0);
        y.judge(0, 1, 0);
        y.file(1, 0);
        y.file(2, 0);
        due.is("the third hears case 0", y.sitting(1), 32000000);
        due.promise(19, "a JUDGE who is left over");
        JudgesByLoss z = lawful("1", "0");
        z.judge(0, 1, 0);
        z.judge(0, 1, 0);
        z.judge(0, 2, 0);
        z.file(1, 0);
        z.file(2, 0);
        due.is("two of three JUDGES", z.sitting(0), 2);
        due.is("the first and the third", z.sitting(1), 13000000);
        due.promise(19, "a gap between CASES");
        JudgesByLoss w = lawful("1", "0");
        w.judge(0, 7, 0);
        w.judge(0, 5, 0);
        w.file(1, 0);
        w.file(2, 0);
        w.file(4, 0);
        w.hear(0, 1);
        w.put(0, 2, 0);
        due.is("two", w.sitting(0), 2);
        due.is("nobody hears case 1", w.sitting(1), 10200000);
    }

    private static void wants() {
        due.promise(21, "\"all sets of THINGS that aren't LOST\", none, one, ten");
        JudgesByLoss x = lawful("1", "0");
        x.judge(0, 1023, 0);
        x.file(1023, 0);
        due.is("nothing is wanted", x.wants(0, 0, 0), 0);
        due.is("of how many", x.wants(0, 0, 1), 0);
        x.put(0, 0, 511);
        due.is("THING 9", x.wants(0, 0, 0), 512);
        due.is("of how many", x.wants(0, 0, 1), 1);
        x.put(0, 0, 0);
        due.is("all ten", x.wants(0, 0, 0), 1023);
        due.is("of how many", x.wants(0, 0, 1), 10);
        due.promise(21, "\"of like ones the least as bits\"");
        x.judge(10, 0, 0);
        due.is("nine of ten", x.wants(1, 0, 0), 511);
        due.is("of how many", x.wants(1, 0, 1), 9);
        x.put(1, 0, 1);
        due.is("eight of the others", x.wants(1, 0, 0), 510);
        due.promise(21, "\"-1: none\"");
        x.judge(20 + 5, 1023, 0);
        due.is("a WIDOW, DAY 0", x.wants(2, 0, 0), -1);
        due.is("of how many", x.wants(2, 0, 1), -1);
        x.dawn(5);
        due.promise(21, "\"MAY hear a CASE now\"");
        due.is("a WIDOW, DAY 5", x.wants(2, 0, 0), 0);
        x.put(2, 2, 99);
        due.is("though BUSY", x.wants(2, 0, 0), 0);
        fewestByTheText();
        due.promise(21, "the refusals of a number");
        int[] far = {-1, MIN, MAX};
        for (int v : far) {
            due.is("judge " + v, x.wants(v, 0, 0), -5);
            due.is("case " + v, x.wants(0, v, 0), -6);
            due.is("what " + v, x.wants(0, 0, v), -7);
        }
        due.is("judge 3", x.wants(3, 0, 0), -5);
        due.is("case 1", x.wants(0, 1, 0), -6);
        due.is("case 8", x.wants(0, 8, 0), -6);
        due.is("what 2", x.wants(0, 0, 2), -7);
    }

    private static void fewestByTheText() {
        due.promise(21, "\"that of fewest\", by a text that asks for how many are LOST");
        JudgesByLoss x = new JudgesByLoss();
        Due.readByFives(x, "needs (lost<4)+(3<lost and lost<6)*2;takes 1;judges 0;");
        x.force(1);
        x.judge(0, 4, 0);
        x.file(512, 0);
        due.is("six are LOST then, the least of them", x.wants(0, 0, 0), 512 + 1 + 2 + 8 + 16);
        due.is("of how many", x.wants(0, 0, 1), 5);
        x.put(0, 1, 1);
        due.is("MIND 1: that one", x.wants(0, 0, 0), 512);
        due.is("of how many", x.wants(0, 0, 1), 1);
    }

    private static void fullest() {
        due.promise(22, "\"-1: there are none\"");
        JudgesByLoss x = lawful("1", "0");
        due.is("who", x.fullest(0), -1);
        due.is("how many", x.fullest(1), 0);
        x.file(1, 0);
        due.is("who, a CASE is there", x.fullest(0), -1);
        due.promise(22, "no CASES one MAY hear");
        x.judge(0, 0, 0);
        due.is("the one", x.fullest(0), 0);
        due.is("none", x.fullest(1), 0);
        x.judge(0, 2, 0);
        due.is("the one of more LOST", x.fullest(0), 1);
        x.judge(0, 1, 0);
        due.promise(22, "\"The JUDGE who MAY hear most CASES\"");
        due.is("the one who MAY", x.fullest(0), 2);
        due.is("one", x.fullest(1), 1);
        x.put(1, 0, 1022);
        due.is("more LOST, fewer CASES", x.fullest(0), 2);
        for (int p = 3; p < 6; p++) {
            x.judge(0, 1, 0);
        }
        due.promise(22, "\"of these the first\"");
        due.is("of like ones", x.fullest(0), 2);
        x.put(5, 0, 3);
        due.promise(22, "\"of like ones the one of most THINGS LOST\"");
        due.is("the last", x.fullest(0), 5);
        for (int c = 1; c < 8; c++) {
            x.file(1, 0);
        }
        due.is("eight CASES", x.fullest(1), 8);
    }

    private static void cruel() {
        due.promise(23, "none, all");
        JudgesByLoss x = lawful("1", "0");
        due.is("no CASES", x.cruel(), 0);
        for (int c = 0; c < 8; c++) {
            x.file(1 << c, 0);
        }
        due.is("no JUDGES: all", x.cruel(), 255);
        x.judge(0, 1, 0);
        due.is("all but the first", x.cruel(), 254);
        x.judge(0, 128, 0);
        due.is("all but the first and the last", x.cruel(), 126);
        x.put(0, 2, 99);
        due.is("though BUSY", x.cruel(), 126);
        x.put(0, 0, 255);
        due.is("none", x.cruel(), 0);
        due.promise(23, "\"nobody MAY hear now\"");
        JudgesByLoss y = new JudgesByLoss();
        y.judge(51, 0, 0);
        y.file(1, 0);
        due.is("DAY 0", y.cruel(), 1);
        y.dawn(1);
        due.is("DAY 1", y.cruel(), 0);
    }

    private static void ruin(int[] lost, long above, long below) {
        JudgesByLoss x = new JudgesByLoss();
        StringBuilder all = new StringBuilder();
        for (int own : lost) {
            x.judge(0, own, 0);
            all.append(own).append(' ');
        }
        due.is(all + "above", x.ruin(0), above);
        due.is(all + "below", x.ruin(1), below);
    }

    private static void ruin() {
        due.promise(24, "\"in lowest terms\"");
        ruin(new int[] {0}, 0, 1);
        ruin(new int[] {512}, 1, 1);
        ruin(new int[] {1023}, 10, 1);
        ruin(new int[] {0, 0, 0, 0, 0, 0}, 0, 1);
        ruin(new int[] {1, 0, 0, 0, 0, 0}, 1, 6);
        ruin(new int[] {3, 0, 0, 0, 0, 0}, 1, 3);
        ruin(new int[] {7, 0, 0, 0, 0, 0}, 1, 2);
        ruin(new int[] {15, 0, 0, 0, 0, 0}, 2, 3);
        ruin(new int[] {31, 0, 0, 0, 0, 0}, 5, 6);
        ruin(new int[] {1023, 1023, 1023, 1023, 1023, 1023}, 10, 1);
        ruin(new int[] {1023, 1023, 1023, 1023, 1023, 511}, 59, 6);
        due.promise(24, "\"NO: part, there are none\"");
        JudgesByLoss x = new JudgesByLoss();
        due.is("none, above", x.ruin(0), JudgesByLoss.NO);
        due.is("none, below", x.ruin(1), JudgesByLoss.NO);
        x.judge(0, 1, 0);
        int[] bad = {-1, 2, MIN, MAX};
        for (int part : bad) {
            due.is("part " + part, x.ruin(part), JudgesByLoss.NO);
        }
    }
}
