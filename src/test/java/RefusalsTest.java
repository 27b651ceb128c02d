import java.util.function.Supplier;
import java.util.function.ToLongFunction;

/**
 * "REFUSALS, of several the first one told" and "They change nothing, but where it is told": each refusal of each
 * call, alone and with every other that can hold with it; behind each the object is as one that wasn't called so.
 */
public final class RefusalsTest {
    private static final Due due = new Due();
    private static final int NONE = -1, BAD = -2, STATE = -3, FULL = -4;

    private static Supplier<JudgesByLoss> scene;

    public static void main(String[] args) {
        bench();
        cases();
        days();
        best();
        toldDays();
        lots();
        host();
        hostsRows();
        due.end();
    }

    // ---- one row: what is called, and what is due

    private static void refused(String call, ToLongFunction<JudgesByLoss> asked, long want) {
        JudgesByLoss x = scene.get();
        due.is(call, asked.applyAsLong(x), want);
        due.same(call + " changes nothing", Probe.of(x), Probe.of(scene.get()));
    }

    // ---- by promise

    private static void bench() {
        scene = Scenes::some;
        due.promise(2, "count");
        refused("BAD: what below", x -> x.count(-1), BAD);
        refused("BAD: what above", x -> x.count(7), BAD);
        due.promise(3, "dawn");
        refused("BAD: v below", x -> x.dawn(-1), BAD);
        refused("BAD: v above", x -> x.dawn(1000), BAD);
        due.promise(4, "feed");
        refused("BAD: n 0", x -> x.feed(0, 1, 1, 1, 1, 1), BAD);
        refused("BAD: n 6", x -> x.feed(6, 1, 1, 1, 1, 1), BAD);
        refused("BAD: the first byte", x -> x.feed(5, 256, 1, 1, 1, 1), BAD);
        refused("BAD: the second byte", x -> x.feed(1, 1, -1, 1, 1, 1), BAD);
        refused("BAD: the third byte", x -> x.feed(1, 1, 1, 256, 1, 1), BAD);
        refused("BAD: the fourth byte", x -> x.feed(1, 1, 1, 1, -1, 1), BAD);
        refused("BAD: the fifth byte", x -> x.feed(1, 1, 1, 1, 1, 256), BAD);
        scene = () -> Scenes.fed(158);
        refused("FULL: room for two, three come", x -> x.feed(3, ' ', ' ', ' ', 1, 1), FULL);
        refused("FULL: room for two, five come", x -> x.feed(5, ' ', ' ', ' ', ' ', ' '), FULL);
        scene = () -> Scenes.fed(160);
        refused("FULL", x -> x.feed(1, 1, 1, 1, 1, 1), FULL);
        refused("BAD (n) ahead of FULL", x -> x.feed(6, 1, 1, 1, 1, 1), BAD);
        refused("BAD (a byte that comes) ahead of FULL", x -> x.feed(1, -1, 1, 1, 1, 1), BAD);
        refused("BAD (a byte that doesn't come) ahead of FULL", x -> x.feed(1, 1, 1, 1, 1, 256), BAD);
        due.promise(5, "text");
        scene = Scenes::full;
        refused("FULL ahead of the FAULT, THE TAPE stays", JudgesByLoss::text, FULL);
        scene = Scenes::some;
        due.promise(6, "force");
        refused("BAD: t below", x -> x.force(-1), BAD);
        refused("BAD: t above", x -> x.force(2), BAD);
        due.promise(7, "asks");
        refused("-1000: part", x -> x.asks(3, 0, 0), -1000);
        refused("-1000: no JUDGE", x -> x.asks(0, 2, 0), -1000);
        refused("-1000: no CASE", x -> x.asks(0, 0, 3), -1000);
        refused("-1000: all of these", x -> x.asks(-1, -1, -1), -1000);
        due.promise(8, "judge");
        refused("BAD: kindMore below", x -> x.judge(-1, 0, 0), BAD);
        refused("BAD: kindMore above", x -> x.judge(60, 0, 0), BAD);
        refused("BAD: own below", x -> x.judge(0, -1, 0), BAD);
        refused("BAD: own above", x -> x.judge(0, 1024, 0), BAD);
        refused("BAD: minds below", x -> x.judge(0, 0, -1), BAD);
        refused("BAD: minds above", x -> x.judge(0, 0, 100), BAD);
        scene = Scenes::full;
        refused("FULL", x -> x.judge(0, 0, 0), FULL);
        refused("BAD (kindMore) ahead of FULL", x -> x.judge(60, 0, 0), BAD);
        refused("BAD (own) ahead of FULL", x -> x.judge(0, 1024, 0), BAD);
        refused("BAD (minds) ahead of FULL", x -> x.judge(0, 0, 100), BAD);
    }

    private static void cases() {
        scene = Scenes::some;
        due.promise(9, "file");
        refused("BAD: no THINGS", x -> x.file(0, 0), BAD);
        refused("BAD: things above", x -> x.file(1024, 0), BAD);
        refused("BAD: hardness below", x -> x.file(1, -1), BAD);
        refused("BAD: hardness above", x -> x.file(1, 100), BAD);
        scene = Scenes::full;
        refused("FULL", x -> x.file(1, 0), FULL);
        refused("BAD (things) ahead of FULL", x -> x.file(0, 0), BAD);
        refused("BAD (hardness) ahead of FULL", x -> x.file(1, 100), BAD);
        scene = Scenes::some;
        due.promise(10, "put");
        refused("-5", x -> x.put(2, 0, 0), -5);
        refused("-5 ahead of -7 (what)", x -> x.put(2, 3, 0), -5);
        refused("-5 ahead of -7 (v)", x -> x.put(-1, 0, 1024), -5);
        refused("-7: what below", x -> x.put(0, -1, 0), -7);
        refused("-7: what above", x -> x.put(0, 3, 0), -7);
        refused("-7: LOST above", x -> x.put(0, 0, 1024), -7);
        refused("-7: MIND above", x -> x.put(0, 1, 100), -7);
        refused("-7: BUSY above", x -> x.put(0, 2, 100), -7);
        refused("-7: LOST below", x -> x.put(0, 0, -1), -7);
        refused("-7: MIND below", x -> x.put(0, 1, -1), -7);
        refused("-7: BUSY below", x -> x.put(0, 2, -1), -7);
        due.promise(11, "told");
        refused("-5", x -> x.told(2, 0), -5);
        refused("-5 ahead of -7", x -> x.told(2, 6), -5);
        refused("-7", x -> x.told(0, 6), -7);
        due.promise(12, "paper");
        refused("-6", x -> x.paper(3, 0), -6);
        refused("-6 ahead of -7", x -> x.paper(3, 4), -6);
        refused("-6 ahead of -7, no such number", x -> x.paper(8, -1), -6);
        refused("-7", x -> x.paper(1, 4), -7);
        due.promise(13, "hearing");
        refused("-5", x -> x.hearing(2, 1, 0), -5);
        refused("-6", x -> x.hearing(0, 3, 0), -6);
        refused("-7", x -> x.hearing(0, 1, 3), -7);
        refused("-5 ahead of -6", x -> x.hearing(2, 3, 0), -5);
        refused("-5 ahead of -7", x -> x.hearing(2, 1, 3), -5);
        refused("-6 ahead of -7", x -> x.hearing(0, 3, 3), -6);
        refused("-5 ahead of -6 and -7", x -> x.hearing(-1, 8, -1), -5);
    }

    private static void days() {
        scene = Scenes::some;
        due.promise(14, "hear");
        refused("-5", x -> x.hear(2, 1), -5);
        refused("-5 ahead of -6", x -> x.hear(2, 3), -5);
        refused("-5 ahead of STATE, as nobody MAY", x -> x.hear(2, 2), -5);
        refused("-6", x -> x.hear(0, 3), -6);
        refused("-6 ahead of STATE, one is BUSY", x -> x.hear(1, 3), -6);
        refused("STATE: one is BUSY", x -> x.hear(1, 1), STATE);
        refused("STATE: one may not", x -> x.hear(0, 2), STATE);
        refused("STATE: both", x -> x.hear(1, 2), STATE);
        due.promise(15, "rob");
        refused("-5", x -> x.rob(2, 0), -5);
        refused("-5 ahead of -7", x -> x.rob(2, 1024), -5);
        refused("-7: below", x -> x.rob(0, -1), -7);
        refused("-7: above", x -> x.rob(0, 1024), -7);
        due.promise(16, "day");
        scene = Scenes::late;
        refused("STATE: DAY is 999", JudgesByLoss::day, STATE);
        scene = Scenes::some;
        due.promise(17, "run");
        refused("BAD: n below", x -> x.run(-1, 0), BAD);
        refused("BAD: n above", x -> x.run(41, 0), BAD);
        refused("BAD: what below", x -> x.run(1, -1), BAD);
        refused("BAD: what between", x -> x.run(1, 3), BAD);
        refused("BAD: MIND of no JUDGE", x -> x.run(1, 12), BAD);
        refused("BAD: LOST of no JUDGE", x -> x.run(1, 22), BAD);
        refused("BAD: n and what", x -> x.run(41, 22), BAD);
        due.promise(18, "when");
        refused("-7: below", x -> x.when(-1), -7);
        refused("-7: above", x -> x.when(9), -7);
        refused("-6", x -> x.when(3), -6);
        refused("-1 is no refusal", x -> x.when(2), -1);
    }

    private static void best() {
        scene = Scenes::some;
        due.promise(19, "sitting");
        refused("BAD: below", x -> x.sitting(-1), BAD);
        refused("BAD: above", x -> x.sitting(2), BAD);
        due.promise(20, "burglary");
        refused("BAD: n below", x -> x.burglary(-1, 0), BAD);
        refused("BAD: n above", x -> x.burglary(41, 0), BAD);
        refused("BAD: what below", x -> x.burglary(1, -1), BAD);
        refused("BAD: what above", x -> x.burglary(1, 2), BAD);
        refused("BAD: n and what", x -> x.burglary(-1, 2), BAD);
        due.promise(21, "wants");
        refused("-5", x -> x.wants(2, 1, 0), -5);
        refused("-6", x -> x.wants(0, 3, 0), -6);
        refused("-7: below", x -> x.wants(0, 1, -1), -7);
        refused("-7: above", x -> x.wants(0, 1, 2), -7);
        refused("-5 ahead of -6", x -> x.wants(2, 3, 0), -5);
        refused("-5 ahead of -7", x -> x.wants(2, 1, 2), -5);
        refused("-6 ahead of -7", x -> x.wants(0, 3, 2), -6);
        refused("-5 ahead of -6 and -7", x -> x.wants(6, 8, 2), -5);
        due.promise(22, "fullest");
        refused("BAD: below", x -> x.fullest(-1), BAD);
        refused("BAD: above", x -> x.fullest(2), BAD);
        due.promise(24, "ruin");
        refused("NO: below", x -> x.ruin(-1), JudgesByLoss.NO);
        refused("NO: above", x -> x.ruin(2), JudgesByLoss.NO);
        scene = JudgesByLoss::new;
        refused("NO: there are none", x -> x.ruin(0), JudgesByLoss.NO);
        refused("NO: both", x -> x.ruin(2), JudgesByLoss.NO);
        due.promise(22, "fullest");
        refused("BAD ahead of the answer -1", x -> x.fullest(2), BAD);
        refused("the answer -1", x -> x.fullest(0), NONE);
        due.promise(20, "burglary");
        refused("BAD ahead of the answer -1", x -> x.burglary(41, 0), BAD);
        refused("the answer -1", x -> x.burglary(40, 0), NONE);
        scene = () -> {
            JudgesByLoss x = new JudgesByLoss();
            x.judge(0, 0, 0);
            x.file(1, 99);
            return x;
        };
        due.promise(21, "wants");
        refused("-7 ahead of the answer -1", x -> x.wants(0, 0, 2), -7);
        refused("the answer -1", x -> x.wants(0, 0, 1), NONE);
    }

    private static void toldDays() {
        scene = Scenes::some;
        int[] sheets = {-1, 4, 2, 1};
        int[] wants = {BAD, BAD, -11, BAD};
        String[] names = {"BAD (SHEET below)", "BAD (SHEET above)", "-11", "BAD (it tells more than 20)"};
        for (int i = 0; i < sheets.length; i++) {
            int s = sheets[i];
            int want = wants[i];
            String name = names[i];
            due.promise(25, "tells");
            refused(name, x -> x.tells(s), want);
            due.promise(26, "kinds");
            refused(name, x -> x.kinds(s, 0, 0), want);
            refused(name + " ahead of -5", x -> x.kinds(s, 2, 0), want);
            refused(name + " ahead of -7", x -> x.kinds(s, 0, 2), want);
            refused(name + " ahead of -5 and -7", x -> x.kinds(s, -1, -1), want);
            due.promise(27, "turned");
            refused(name, x -> x.turned(s, 0), want);
            refused(name + " ahead of -5", x -> x.turned(s, 2), want);
            due.promise(28, "states");
            refused(name, x -> x.states(s, 0, 1, 0), want);
            refused(name + " ahead of -5", x -> x.states(s, 2, 1, 0), want);
            refused(name + " ahead of -7 (sort)", x -> x.states(s, 0, 0, 0), want);
            refused(name + " ahead of -7 (what)", x -> x.states(s, 0, 1, 2), want);
            refused(name + " ahead of all", x -> x.states(s, -1, 3, -1), want);
            due.promise(29, "dropped");
            refused(name, x -> x.dropped(s), want);
            due.promise(30, "laws");
            refused(name, x -> x.laws(s), want);
        }
        toldDaysOfNobody();
        due.promise(31, "film");
        refused("BAD: SHEET below", x -> x.film(-1, 1), BAD);
        refused("BAD: SHEET above", x -> x.film(4, 1), BAD);
        refused("BAD ahead of -7, n below", x -> x.film(4, -1), BAD);
        refused("BAD ahead of -7, n above", x -> x.film(-1, 21), BAD);
        refused("-7: n below", x -> x.film(0, -1), -7);
        refused("-7: n above", x -> x.film(0, 21), -7);
        refused("-7 of a SHEET that is missing", x -> x.film(2, 21), -7);
    }

    private static void toldDaysOfNobody() {
        due.promise(26, "kinds");
        refused("-5", x -> x.kinds(0, 2, 0), -5);
        refused("-5 ahead of -7", x -> x.kinds(0, 2, 2), -5);
        refused("-7: below", x -> x.kinds(0, 0, -1), -7);
        refused("-7: above", x -> x.kinds(0, 0, 2), -7);
        due.promise(27, "turned");
        refused("-5: below", x -> x.turned(0, -1), -5);
        refused("-5: above", x -> x.turned(0, 2), -5);
        due.promise(28, "states");
        refused("-5", x -> x.states(0, 2, 1, 0), -5);
        refused("-5 ahead of -7 (sort)", x -> x.states(0, 2, 0, 0), -5);
        refused("-5 ahead of -7 (what)", x -> x.states(0, 2, 1, 2), -5);
        refused("-7: sort below", x -> x.states(0, 0, 0, 0), -7);
        refused("-7: sort above", x -> x.states(0, 0, 3, 0), -7);
        refused("-7: what below", x -> x.states(0, 0, 2, -1), -7);
        refused("-7: what above", x -> x.states(0, 0, 2, 2), -7);
        refused("-7: both", x -> x.states(0, 0, 3, 2), -7);
        refused("-7 (sort) ahead of the answer -1", x -> x.states(0, 0, 0, 1), -7);
        refused("the answer -1", x -> x.states(0, 0, 1, 1), NONE);
    }

    private static void lots() {
        scene = Scenes::some;
        due.promise(32, "drawn");
        refused("BAD: seed below", x -> x.drawn(-1, 0), BAD);
        refused("BAD: seed above", x -> x.drawn(100000, 0), BAD);
        refused("BAD: what below", x -> x.drawn(0, -1), BAD);
        refused("BAD: what above", x -> x.drawn(0, 2), BAD);
        refused("BAD: both", x -> x.drawn(-1, 2), BAD);
        due.promise(33, "odds");
        refused("NO: seed below", x -> x.odds(-1, 1, 0, 0), JudgesByLoss.NO);
        refused("NO: seed above", x -> x.odds(100000, 1, 0, 0), JudgesByLoss.NO);
        refused("NO: no seeds", x -> x.odds(0, 0, 0, 0), JudgesByLoss.NO);
        refused("NO: seeds above", x -> x.odds(0, 41, 0, 0), JudgesByLoss.NO);
        refused("NO: least below", x -> x.odds(0, 1, -1, 0), JudgesByLoss.NO);
        refused("NO: least above", x -> x.odds(0, 1, 9, 0), JudgesByLoss.NO);
        refused("NO: part below", x -> x.odds(0, 1, 0, -1), JudgesByLoss.NO);
        refused("NO: part above", x -> x.odds(0, 1, 0, 2), JudgesByLoss.NO);
        refused("NO: all of these", x -> x.odds(-1, 0, -1, -1), JudgesByLoss.NO);
        due.promise(35, "back");
        scene = () -> {
            JudgesByLoss x = new JudgesByLoss();
            x.judge(23, 5, 6);
            x.file(7, 8);
            x.dawn(9);
            return x;
        };
        refused("STATE: there is none", JudgesByLoss::back, STATE);
    }

    private static void host() {
        scene = Scenes::some;
        due.promise(36, "sheet");
        refused("BAD: SHEET below", x -> x.sheet(-1, 0, 1), BAD);
        refused("BAD: SHEET above", x -> x.sheet(4, 0, 1), BAD);
        refused("BAD: SHEET, though it would be missing", x -> x.sheet(4, -1, 1), BAD);
        refused("BAD: sort below", x -> x.sheet(0, -2, 1), BAD);
        refused("BAD: sort above", x -> x.sheet(0, 3, 1), BAD);
        refused("BAD: n above 40", x -> x.sheet(0, 0, 41), BAD);
        refused("BAD (SHEET) ahead of -14", x -> x.sheet(4, 0, -1), BAD);
        refused("BAD (sort) ahead of -14", x -> x.sheet(0, 3, -1), BAD);
        refused("BAD (sort below) ahead of -14", x -> x.sheet(0, -2, -1), BAD);
        refused("-14", x -> x.sheet(0, 0, -1), -14);
        due.promise(37, "cell");
        refused("BAD: SHEET below", x -> x.cell(-1, 0, 1), BAD);
        refused("BAD: SHEET above", x -> x.cell(4, 0, 1), BAD);
        refused("BAD ahead of -12", x -> x.cell(4, -1, 1), BAD);
        refused("-11", x -> x.cell(2, 0, 1), -11);
        refused("-11 ahead of -12", x -> x.cell(2, -1, 1), -11);
        refused("-12: below", x -> x.cell(0, -1, 1), -12);
        refused("-12: above", x -> x.cell(0, 6, 1), -12);
        due.promise(40, "taken");
        refused("BAD: kind below", x -> x.taken(0, -1), BAD);
        refused("BAD: kind above", x -> x.taken(0, 7), BAD);
        refused("BAD ahead of -12", x -> x.taken(14, 7), BAD);
        refused("BAD ahead of -11", x -> x.taken(5, -1), BAD);
        refused("BAD ahead of -13", x -> x.taken(7, 7), BAD);
        refused("-12: below", x -> x.taken(-1, 0), -12);
        refused("-12: above", x -> x.taken(14, 6), -12);
        refused("-11: no JUDGE", x -> x.taken(2, 0), -11);
        refused("-11 (no JUDGE) ahead of -13", x -> x.taken(2, 6), -11);
        refused("-11: no CASE", x -> x.taken(9, 6), -11);
        refused("-11 (no CASE) ahead of -13", x -> x.taken(9, 0), -11);
        refused("-13: a JUDGE of another KIND", x -> x.taken(0, 1), -13);
        refused("-13: a JUDGE is no CASE", x -> x.taken(0, 6), -13);
        refused("-13: a CASE is no JUDGE", x -> x.taken(7, 0), -13);
    }

    private static void hostsRows() {
        scene = Scenes::some;
        due.promise(38, "copy");
        refused("BAD: SHEET", x -> x.copy(4, 0, 0, 0, 1), BAD);
        refused("BAD: the other SHEET", x -> x.copy(0, 0, -1, 0, 1), BAD);
        refused("BAD ahead of -11", x -> x.copy(2, 0, 4, 0, 1), BAD);
        refused("BAD ahead of -11, of the other", x -> x.copy(-1, 0, 2, 0, 1), BAD);
        refused("BAD ahead of -12", x -> x.copy(4, 99, 0, 0, -1), BAD);
        refused("-11", x -> x.copy(2, 0, 0, 0, 1), -11);
        refused("-11, the other", x -> x.copy(0, 0, 2, 0, 1), -11);
        refused("-11, both", x -> x.copy(2, 0, 2, 0, 0), -11);
        refused("-11 ahead of -12", x -> x.copy(2, -1, 0, 99, -1), -11);
        refused("-11 ahead of -12, the other", x -> x.copy(0, 99, 2, -1, -1), -11);
        refused("-13", x -> x.copy(0, 0, 1, 0, 1), -13);
        refused("-13, though none would come", x -> x.copy(0, 0, 3, 0, 0), -13);
        refused("-13 ahead of -12 (i)", x -> x.copy(0, 99, 1, 0, 1), -13);
        refused("-13 ahead of -12 (j)", x -> x.copy(0, 0, 1, 99, 1), -13);
        refused("-13 ahead of -12 (n below 0)", x -> x.copy(0, 0, 1, 0, -1), -13);
        refused("-12: i", x -> x.copy(0, 6, 0, 0, 1), -12);
        refused("-12: j", x -> x.copy(0, 0, 0, 6, 1), -12);
        refused("-12: n below 0", x -> x.copy(0, 0, 0, 0, -1), -12);
        due.promise(39, "judgesBy");
        refused("BAD: SHEET below", x -> x.judgesBy(-1, 2, 0, 1), BAD);
        refused("BAD: SHEET above", x -> x.judgesBy(4, 2, 0, 1), BAD);
        refused("BAD: sort below", x -> x.judgesBy(0, -1, 0, 1), BAD);
        refused("BAD: sort above", x -> x.judgesBy(0, 3, 0, 1), BAD);
        refused("BAD: n below", x -> x.judgesBy(0, 2, 0, -1), BAD);
        refused("BAD: n above", x -> x.judgesBy(0, 2, 0, 7), BAD);
        refused("BAD (sort) ahead of -11", x -> x.judgesBy(2, -1, 0, 1), BAD);
        refused("BAD (n) ahead of -11", x -> x.judgesBy(2, 0, 0, 7), BAD);
        refused("BAD (n) ahead of -13", x -> x.judgesBy(0, 1, 0, -1), BAD);
        refused("BAD (n) ahead of -12", x -> x.judgesBy(0, 2, -1, 7), BAD);
        refused("-11", x -> x.judgesBy(2, 2, 0, 1), -11);
        refused("-11 ahead of -12", x -> x.judgesBy(2, 2, -1, 1), -11);
        refused("-13", x -> x.judgesBy(0, 1, 0, 1), -13);
        refused("-13, though none would come", x -> x.judgesBy(0, 1, 0, 0), -13);
        refused("-13 ahead of -12", x -> x.judgesBy(0, 1, -1, 1), -13);
        refused("-12: from below", x -> x.judgesBy(0, 2, -1, 1), -12);
        refused("-12: from above", x -> x.judgesBy(0, 2, 6, 1), -12);
        refused("-12: just the third number is outside", x -> x.judgesBy(0, 2, 4, 1), -12);
        scene = Scenes::full;
        due.promise(38, "copy");
        refused("-11 of sheets that are missing at first", x -> x.copy(0, 0, 1, 0, 0), -11);
    }
}
