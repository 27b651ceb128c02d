/** Counts the answers that are not the ones that are due, and tells each. */
final class Due {
    private String promise = "";
    private int asked;
    private int wrong;

    void promise(int number, String name) {
        promise = number + " " + name;
    }

    void is(String call, long got, long want) {
        asked++;
        if (got != want) {
            wrong++;
            System.out.println("promise " + promise + ": " + call + " answered " + got + ", due is " + want);
        }
    }

    void end() {
        String rest = wrong == 0 ? " answers are as due" : " answers, " + wrong + " not as due";
        System.out.println("all " + asked + rest);
        System.exit(wrong == 0 ? 0 : 1);
    }

    /** Feeds a text's bytes and reads it: what text() answers. */
    static int read(JudgesByLoss x, String text) {
        for (int i = 0; i < text.length(); i++) {
            x.feed(1, text.charAt(i), 0, 0, 0, 0);
        }
        return x.text();
    }

    /** Makes a sheet of ints tell these numbers. */
    static void write(JudgesByLoss x, int s, int... numbers) {
        x.sheet(s, 2, numbers.length);
        for (int i = 0; i < numbers.length; i++) {
            x.cell(s, i, numbers[i]);
        }
    }
}
