/** Counts the answers that are not the ones that are due, and tells each. */
final class Due {
    private String promise = "";
    private int asked;
    private int wrong;

    void promise(int number, String name) {
        promise = number + " " + name;
    }

    void is(String call, long got, long want) {
        asked++;
        if (got != want) {
            wrong++;
            System.out.println("promise " + promise + ": " + call + " answered " + got + ", due is " + want);
        }
    }

    /** Two texts of many lines; just the lines that differ are told. */
    void same(String call, String got, String want) {
        asked++;
        if (got.equals(want)) {
            return;
        }
        wrong++;
        System.out.println("promise " + promise + ": " + call + " isn't so:");
        String[] own = got.split("\n");
        String[] other = want.split("\n");
        for (int i = 0; i < Math.max(own.length, other.length); i++) {
            String line = i < own.length ? own[i] : "nothing";
            String wanted = i < other.length ? other[i] : "nothing";
            if (!line.equals(wanted)) {
                System.out.println("  " + line + ", due is " + wanted);
            }
        }
    }

    void end() {
        String rest = wrong == 0 ? " answers are as due" : " answers, " + wrong + " not as due";
        System.out.println("all " + asked + rest);
        System.exit(wrong == 0 ? 0 : 1);
    }

    /** Feeds a text's bytes and reads it: what text() answers. */
    static int read(JudgesByLoss x, String text) {
        for (int i = 0; i < text.length(); i++) {
            x.feed(1, text.charAt(i), 0, 0, 0, 0);
        }
        return x.text();
    }

    /** As read(), in fewer calls. */
    static int readByFives(JudgesByLoss x, String text) {
        feedByFives(x, text);
        return x.text();
    }

    static void feedByFives(JudgesByLoss x, String text) {
        for (int i = 0; i < text.length(); i += 5) {
            int[] five = new int[5];
            int n = Math.min(5, text.length() - i);
            for (int k = 0; k < n; k++) {
                five[k] = text.charAt(i + k);
            }
            x.feed(n, five[0], five[1], five[2], five[3], five[4]);
        }
    }

    /** Makes a sheet of ints tell these numbers. */
    static void write(JudgesByLoss x, int s, int... numbers) {
        x.sheet(s, 2, numbers.length);
        for (int i = 0; i < numbers.length; i++) {
            x.cell(s, i, numbers[i]);
        }
    }
}
