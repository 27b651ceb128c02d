/** Objects that tests begin with; each call of one makes a like object. */
final class Scenes {
    private Scenes() {
    }

    /** Two judges (the second BUSY), cases 1 and 2 (the latter can't be heard), sheets of each sort, one missing. */
    static JudgesByLoss some() {
        JudgesByLoss x = new JudgesByLoss();
        x.judge(0, 3, 50);
        x.image();
        Due.read(x, "needs 1;takes 2;judges 3;");
        x.force(1);
        x.judge(12, 7, 40);
        x.put(1, 2, 4);
        x.file(1, 0);
        x.file(2, 5);
        x.file(768, 9);
        x.dawn(5);
        x.day();
        x.put(0, 2, 0);
        Due.write(x, 0, 1, 0, 7, 20, 21, 22);
        x.sheet(1, 0, 21);
        for (int i = 0; i < 21; i++) {
            x.cell(1, i, i);
        }
        x.sheet(3, 1, 6);
        x.cell(3, 4, 59);
        x.feed(5, 'n', 'e', 'e', 'd', 's');
        return x;
    }

    /** All there is room for: six judges, eight cases, six texts, 160 bytes. */
    static JudgesByLoss full() {
        JudgesByLoss x = new JudgesByLoss();
        x.image();
        for (int p = 0; p < 6; p++) {
            x.judge(11 * p, 1 << p, 10 * p);
        }
        for (int c = 0; c < 8; c++) {
            x.file(1 << c, 9 * c);
        }
        for (int t = 1; t < 6; t++) {
            Due.readByFives(x, "needs " + t + ";takes 1;judges 1;");
        }
        for (int i = 0; i < 32; i++) {
            x.feed(5, 'x', ' ', ' ', ' ', ' ');
        }
        return x;
    }

    static JudgesByLoss late() {
        JudgesByLoss x = some();
        x.dawn(999);
        return x;
    }

    /** A judge, a case, and so many bytes of a text that is right. */
    static JudgesByLoss fed(int bytes) {
        JudgesByLoss x = new JudgesByLoss();
        x.judge(0, 0, 0);
        x.file(1, 0);
        StringBuilder text = new StringBuilder("needs 1;takes 1;judges 1;");
        while (text.length() < bytes) {
            text.append(' ');
        }
        Due.feedByFives(x, text.toString());
        return x;
    }
}
