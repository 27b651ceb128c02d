/** Promises 14 to 24: hearings, days, and what is best. */
public final class DaysTest {
    private static final Due due = new Due();

    public static void main(String[] args) {
        hear();
        hearBounds();
        rob();
        day();
        dayInTurn();
        run();
        when();
        sitting();
        burglary();
        wants();
        fullest();
        cruel();
        ruin();
        due.end();
    }

    private static void hear() {
        due.promise(14, "hear");
        JudgesByLoss x = new JudgesByLoss();
        x.judge(13, 44, 30);
        x.judge(0, 0, 0);
        x.file(14, 30);
        x.file(1, 0);
        due.is("judge 2", x.hear(2, 9), -5);
        due.is("judge -1", x.hear(-1, 0), -5);
        due.is("case 2", x.hear(0, 2), -6);
        due.is("case 8", x.hear(0, 8), -6);
        due.is("one who may not", x.hear(1, 0), -3);
        due.is("HEARD yet", x.count(2), 0);
        due.is("a hearing", x.hear(0, 0), 1030);
        due.is("BUSY", x.told(0, 2), 6);
        due.is("LOST without the least", x.told(0, 0), 40);
        due.is("MIND", x.told(0, 1), 60);
        due.is("the case", x.paper(0, 0), -6);
        due.is("HEARD", x.count(2), 1);
        due.is("CASES", x.count(1), 1);
        due.is("DAY", x.count(6), 0);
        due.is("the same again", x.hear(0, 0), -6);
        due.is("one who is BUSY", x.hear(0, 1), -3);
        x.put(0, 2, 0);
        due.is("once free", x.hear(0, 1), 1060);
        due.is("LOST, none of these", x.told(0, 0), 40);
        due.is("MIND at most", x.told(0, 1), 99);
    }

    private static void hearBounds() {
        JudgesByLoss x = new JudgesByLoss();
        x.judge(50, 6, 60);
        x.file(6, 99);
        due.is("OLD", x.hear(0, 0), 940);
        due.is("MIND", x.told(0, 1), 0);
        due.is("LOST", x.told(0, 0), 4);
        Due.read(x, "needs 0;takes 99;judges -50;");
        x.force(1);
        x.judge(19, 3, 20);
        x.file(3, 0);
        due.is("below 0", x.hear(1, 0), 950);
        due.is("MIND at least", x.told(1, 1), 0);
        due.is("BUSY above 99", x.told(1, 2), 108);
        x.day();
        due.is("BUSY a day later", x.told(1, 2), 107);
    }

    private static void rob() {
        due.promise(15, "rob");
        JudgesByLoss x = new JudgesByLoss();
        x.judge(0, 5, 0);
        due.is("some", x.rob(0, 6), 3);
        due.is("told", x.told(0, 0), 3);
        due.is("none", x.rob(0, 0), 3);
        due.is("all", x.rob(0, 1023), 1020);
        due.is("1024", x.rob(0, 1024), -7);
        due.is("-1", x.rob(0, -1), -7);
        due.is("judge 1", x.rob(1, 1), -5);
        due.is("judge 1 ahead of things", x.rob(1, -1), -5);
        due.is("told", x.told(0, 0), 1020);
    }

    private static void day() {
        due.promise(16, "day");
        JudgesByLoss x = new JudgesByLoss();
        x.judge(0, 3, 50);
        x.put(0, 2, 2);
        x.file(1, 10);
        x.file(2, 10);
        x.file(4, 10);
        due.is("a day too early", x.day(), 0);
        due.is("BUSY", x.told(0, 2), 1);
        due.is("WAITED", x.paper(0, 2), 1);
        due.is("free on the day", x.day(), 1);
        due.is("BUSY", x.told(0, 2), 1);
        due.is("MIND", x.told(0, 1), 99);
        due.is("WAITED of case 1", x.paper(1, 2), 2);
        due.is("the next", x.day(), 2);
        due.is("no more", x.day(), 0);
        due.is("BUSY at least", x.told(0, 2), 0);
        due.is("DAY", x.count(6), 4);
        due.is("HEARD", x.count(2), 2);
        x.dawn(998);
        due.is("the last day but one", x.day(), 0);
        due.is("DAY 999", x.day(), -3);
        due.is("WAITED", x.paper(2, 2), 5);
        x.dawn(0);
        for (int i = 0; i < 94; i++) {
            x.day();
        }
        due.is("WAITED 99", x.paper(2, 2), 99);
        x.day();
        due.is("WAITED at most", x.paper(2, 2), 99);
    }

    private static void dayInTurn() {
        JudgesByLoss x = new JudgesByLoss();
        x.judge(0, 2, 50);
        x.judge(0, 3, 50);
        x.judge(0, 7, 50);
        x.file(1, 10);
        x.file(3, 10);
        x.file(2, 10);
        x.file(4, 60);
        due.is("each by the first who can", x.day(), 7);
        due.is("judge 0, of case 2", x.told(0, 0), 0);
        due.is("judge 1, of case 0", x.told(1, 0), 2);
        due.is("judge 2, of case 1", x.told(2, 0), 6);
        due.is("BUSY by one thing", x.told(0, 2), 1);
        due.is("BUSY by two things", x.told(2, 2), 2);
        due.is("still BUSY", x.day(), 0);
        due.is("free, and minds more by now", x.day(), 8);
        JudgesByLoss y = new JudgesByLoss();
        y.dawn(2);
        y.judge(23, 1, 50);
        y.file(1, 0);
        due.is("by the day ahead", y.day(), 0);
        due.is("by the day then", y.day(), 1);
    }

    private static void run() {
        due.promise(17, "run");
        JudgesByLoss x = new JudgesByLoss();
        x.judge(0, 3, 20);
        x.judge(0, 512, 7);
        x.file(1, 10);
        x.file(2, 10);
        x.file(4, 10);
        due.is("no days, cases", x.run(0, 0), 7);
        due.is("no days, heard", x.run(0, 1), 0);
        due.is("no days, MIND", x.run(0, 10), 20);
        due.is("one day, cases", x.run(1, 0), 6);
        due.is("one day, heard", x.run(1, 1), 1);
        due.is("one day, WAITED", x.run(1, 2), 2);
        due.is("one day, MIND", x.run(1, 10), 40);
        due.is("one day, LOST", x.run(1, 20), 2);
        due.is("two days, cases", x.run(2, 0), 4);
        due.is("two days, MIND", x.run(2, 10), 80);
        due.is("two days, LOST", x.run(2, 20), 0);
        due.is("forty days, WAITED", x.run(40, 2), 40);
        due.is("forty days, heard", x.run(40, 1), 2);
        due.is("judge 1, MIND", x.run(40, 11), 7);
        due.is("judge 1, LOST", x.run(40, 21), 512);
        due.is("nothing has changed", x.count(6) + 10 * x.count(1) + x.paper(0, 2), 30);
        int[] bad = {-1, 3, 9, 12, 19, 22, 30};
        for (int what : bad) {
            due.is("what " + what, x.run(1, what), -2);
        }
        due.is("n -1", x.run(-1, 0), -2);
        due.is("n 41", x.run(41, 0), -2);
        x.dawn(999);
        due.is("past 999", x.run(2, 1), 2);
        JudgesByLoss y = new JudgesByLoss();
        y.dawn(999);
        y.judge(56, 0, 0);
        y.file(1, 0);
        due.is("OLD on day 1000, which is 6 modulo 7", y.run(1, 1) + 10 * y.run(2, 1), 10);
    }

    private static void when() {
        due.promise(18, "when");
        JudgesByLoss x = new JudgesByLoss();
        due.is("no case at all", x.when(8), 0);
        x.judge(0, 7, 50);
        x.file(3, 10);
        x.file(2, 10);
        due.is("case 0", x.when(0), 1);
        due.is("case 1", x.when(1), 3);
        due.is("no case", x.when(8), 3);
        due.is("case 2", x.when(2), -6);
        due.is("what 9", x.when(9), -7);
        due.is("what -1", x.when(-1), -7);
        x.file(8, 10);
        due.is("never", x.when(2), -1);
        due.is("never none", x.when(8), -1);
        JudgesByLoss z = new JudgesByLoss();
        z.judge(0, 128, 50);
        z.judge(0, 1, 50);
        z.put(1, 2, 5);
        z.file(1, 10);
        z.file(128, 10);
        due.is("no case, the first as the last", z.when(8), 5);
        JudgesByLoss y = new JudgesByLoss();
        y.judge(0, 1, 50);
        y.file(1, 10);
        y.put(0, 2, 60);
        due.is("behind 60", y.when(0), 60);
        y.put(0, 2, 61);
        due.is("behind 61", y.when(0), -1);
        due.is("DAY", y.count(6), 0);
    }

    private static void sitting() {
        due.promise(19, "sitting");
        JudgesByLoss x = new JudgesByLoss();
        due.is("nobody", x.sitting(0), 0);
        x.judge(0, 1, 50);
        x.file(1, 0);
        x.file(1, 0);
        due.is("one", x.sitting(0), 1);
        due.is("the later case", x.sitting(1), 1000000);
        JudgesByLoss y = new JudgesByLoss();
        y.judge(0, 3, 50);
        y.judge(0, 1, 50);
        y.judge(0, 3, 50);
        y.judge(0, 8, 50);
        y.put(2, 2, 1);
        y.file(1, 0);
        y.file(2, 0);
        y.file(4, 0);
        y.file(8, 0);
        due.is("three, the second stands back", y.sitting(0), 3);
        due.is("by whom", y.sitting(1), 21040000);
        y.put(2, 2, 0);
        due.is("the third is free, too", y.sitting(0), 3);
        due.is("the least by then", y.sitting(1), 13040000);
        due.is("what 2", y.sitting(2), -2);
        due.is("what -1", y.sitting(-1), -2);
        due.is("CASES", y.count(1), 4);
        JudgesByLoss z = new JudgesByLoss();
        for (int i = 0; i < 6; i++) {
            z.judge(0, 1, 0);
        }
        for (int i = 0; i < 8; i++) {
            z.file(1, 0);
        }
        due.is("six", z.sitting(0), 6);
        due.is("six, the least", z.sitting(1), 123456);
    }

    private static void burglary() {
        due.promise(20, "burglary");
        JudgesByLoss x = new JudgesByLoss();
        x.file(8, 0);
        due.is("no judges", x.burglary(5, 0), -1);
        x.judge(0, 0, 50);
        x.judge(0, 0, 50);
        due.is("the first of like ones", x.burglary(1, 0), 3);
        due.is("how many", x.burglary(1, 1), 1);
        due.is("in no days", x.burglary(0, 0), -1);
        due.is("how many in none", x.burglary(0, 1), 0);
        x.put(0, 2, 99);
        due.is("the second is free", x.burglary(40, 0), 13);
        x.put(1, 0, 8);
        due.is("heard as it is", x.burglary(40, 0), -1);
        due.is("how many as it is", x.burglary(40, 1), 1);
        due.is("what 2", x.burglary(1, 2), -2);
        due.is("what -1", x.burglary(1, -1), -2);
        due.is("n -1", x.burglary(-1, 0), -2);
        due.is("n 41", x.burglary(41, 0), -2);
        due.is("LOST", x.told(0, 0), 0);
        JudgesByLoss y = new JudgesByLoss();
        y.judge(0, 2, 50);
        y.judge(0, 5, 50);
        y.file(1, 60);
        y.file(6, 0);
        due.is("most, by the second judge, who then minds enough", y.burglary(9, 0), 11);
        due.is("two", y.burglary(9, 1), 2);
        due.is("in one day either, the first", y.burglary(1, 0), 2);
        due.is("one", y.burglary(1, 1), 1);
    }

    private static void wants() {
        due.promise(21, "wants");
        JudgesByLoss x = new JudgesByLoss();
        x.judge(0, 1, 50);
        x.judge(10, 1, 50);
        x.judge(0, 0, 9);
        x.file(37, 10);
        x.file(1, 10);
        due.is("JUDGE", x.wants(0, 0, 0), 36);
        due.is("JUDGE, how many", x.wants(0, 0, 1), 2);
        due.is("YOUNG, the least", x.wants(1, 0, 0), 4);
        due.is("YOUNG, how many", x.wants(1, 0, 1), 1);
        due.is("already", x.wants(0, 1, 0), 0);
        due.is("already, how many", x.wants(0, 1, 1), 0);
        due.is("minds too little", x.wants(2, 0, 0), -1);
        due.is("minds too little, how many", x.wants(2, 0, 1), -1);
        due.is("what 2", x.wants(0, 0, 2), -7);
        due.is("case 2", x.wants(0, 2, 2), -6);
        due.is("judge 3", x.wants(3, 2, 2), -5);
        x.put(0, 2, 9);
        due.is("though BUSY", x.wants(0, 0, 0), 36);
        x.put(0, 0, 0);
        x.file(1023, 50);
        due.is("all", x.wants(0, 2, 0), 1023);
        due.is("all, how many", x.wants(0, 2, 1), 10);
        due.is("YOUNG, all but the highest that it is about", x.wants(1, 2, 0), 510);
        x.put(0, 2, 0);
        x.put(0, 0, 1023);
        x.hear(0, 2);
        Due.read(x, "needs 99*(lost<3);takes 1;judges 1;");
        x.force(1);
        x.put(2, 0, 0);
        x.file(512, 0);
        due.is("three by the law", x.wants(2, 2, 0), 515);
        due.is("three by the law, how many", x.wants(2, 2, 1), 3);
        due.is("LOST", x.told(2, 0), 0);
    }

    private static void fullest() {
        due.promise(22, "fullest");
        JudgesByLoss x = new JudgesByLoss();
        due.is("nobody", x.fullest(0), -1);
        due.is("nobody, how many", x.fullest(1), 0);
        x.judge(0, 512, 50);
        x.judge(0, 768, 50);
        x.judge(0, 192, 50);
        due.is("most lost, the first", x.fullest(0), 1);
        due.is("none", x.fullest(1), 0);
        x.file(64, 0);
        due.is("most cases", x.fullest(0), 2);
        due.is("one", x.fullest(1), 1);
        x.file(512, 0);
        due.is("most lost of like ones", x.fullest(0), 1);
        x.file(512, 0);
        x.put(0, 0, 516);
        x.put(1, 2, 5);
        due.is("the first of like ones, though BUSY", x.fullest(0), 0);
        due.is("two", x.fullest(1), 2);
        due.is("what 2", x.fullest(2), -2);
        due.is("what -1", x.fullest(-1), -2);
    }

    private static void cruel() {
        due.promise(23, "cruel");
        JudgesByLoss x = new JudgesByLoss();
        due.is("no cases", x.cruel(), 0);
        x.file(1, 0);
        x.file(2, 0);
        x.file(4, 60);
        due.is("nobody", x.cruel(), 7);
        x.judge(0, 7, 50);
        x.put(0, 2, 9);
        due.is("but two, though BUSY", x.cruel(), 4);
        x.judge(0, 4, 60);
        due.is("none", x.cruel(), 0);
    }

    private static void ruin() {
        due.promise(24, "ruin");
        JudgesByLoss x = new JudgesByLoss();
        due.is("nobody", x.ruin(0), JudgesByLoss.NO);
        x.judge(0, 0, 0);
        due.is("nothing, above", x.ruin(0), 0);
        due.is("nothing, below", x.ruin(1), 1);
        x.judge(0, 0, 0);
        due.is("nothing of two, below", x.ruin(1), 1);
        x.judge(0, 1023, 0);
        x.judge(0, 15, 0);
        due.is("14 by 4, above", x.ruin(0), 7);
        due.is("14 by 4, below", x.ruin(1), 2);
        x.put(0, 0, 3);
        due.is("16 by 4, above", x.ruin(0), 4);
        due.is("16 by 4, below", x.ruin(1), 1);
        due.is("part 2", x.ruin(2), JudgesByLoss.NO);
        due.is("part -1", x.ruin(-1), JudgesByLoss.NO);
    }
}
