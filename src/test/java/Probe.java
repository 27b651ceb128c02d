/**
 * All that can be seen of an object, as one text, so that two objects can be compared. It uses the object up
 * (some 300 calls), so it comes last. Sheets are read by judgesBy(), which needs numbers of 0 .. 59 and an image of
 * five judges at most.
 */
final class Probe {
    private final JudgesByLoss x;
    private final StringBuilder seen = new StringBuilder();

    private Probe(JudgesByLoss x) {
        this.x = x;
    }

    static String of(JudgesByLoss x) {
        Probe probe = new Probe(x);
        probe.bench();
        probe.sheetSizes();
        probe.tape();
        probe.image();
        return probe.seen.toString();
    }

    private void add(String name, long answer) {
        seen.append(name).append(' ').append(answer).append('\n');
    }

    private void bench() {
        for (int what = 0; what < 7; what++) {
            add("count " + what, x.count(what));
        }
        for (int p = 0; p < 6; p++) {
            for (int what = 0; what < 5; what++) {
                add("judge " + p + " what " + what, x.told(p, what));
            }
        }
        for (int c = 0; c < 8; c++) {
            for (int what = 0; what < 3; what++) {
                add("case " + c + " what " + what, x.paper(c, what));
            }
        }
        for (int part = 0; part < 3; part++) {
            for (int c = 0; c < 2; c++) {
                add("the law's part " + part + " of case " + c, x.asks(part, 0, c));
            }
        }
    }

    private int sortOf(int s) {
        for (int sort = 0; sort < 3; sort++) {
            if (x.judgesBy(s, sort, 0, 0) == 0) {
                return sort;
            }
        }
        return -1;
    }

    private int sizeOf(int s) {
        int size = 0;
        while (size < 40 && x.copy(s, 0, s, 0, size + 1) > 0) {
            size++;
        }
        return size;
    }

    private void sheetSizes() {
        for (int s = 0; s < 4; s++) {
            add("sheet " + s + " sort", sortOf(s));
            add("sheet " + s + " size", sizeOf(s));
        }
    }

    private void tape() {
        add("the tape is text", x.text());
    }

    private void image() {
        int judges = x.back();
        add("back", judges);
        if (judges < 0) {
            return;
        }
        bench();
        for (int s = 0; s < 4; s++) {
            int sort = sortOf(s);
            int size = sort < 0 ? 0 : sizeOf(s);
            for (int i = 0; i < size; i += 3) {
                triple(s, sort, Math.max(0, Math.min(i, size - 3)), judges);
            }
        }
    }

    private void triple(int s, int sort, int from, int judges) {
        add("sheet " + s + " from " + from, x.judgesBy(s, sort, from, 1));
        add("kind", x.told(judges, 3));
        add("more", x.told(judges, 4));
        add("lost", x.told(judges, 0));
        add("mind", x.told(judges, 1));
        x.back();
    }
}
