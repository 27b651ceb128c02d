import java.util.function.Supplier;
import java.util.function.ToLongFunction;

/**
 * "What is asked changes nothing, but where it is told": behind each call that asks the object is as one that
 * wasn't asked, and answers the same once more; calls that change one thing change just that.
 */
public final class AskedTest {
    private static final Due due = new Due();

    public static void main(String[] args) {
        asked("some", Scenes::some);
        asked("full", Scenes::full);
        asked("late", Scenes::late);
        asked("new", JudgesByLoss::new);
        changed();
        due.end();
    }

    private static void ask(int promise, String call, Supplier<JudgesByLoss> scene,
        ToLongFunction<JudgesByLoss> asked) {
        JudgesByLoss x = scene.get();
        due.promise(promise, call);
        long first = asked.applyAsLong(x);
        due.is("asked again", asked.applyAsLong(x), first);
        due.same("changes nothing", Probe.of(x), Probe.of(scene.get()));
    }

    private static void asked(String name, Supplier<JudgesByLoss> scene) {
        for (int i = 0; i < 2; i++) {
            int v = i;
            ask(2, name + ", count", scene, x -> x.count(v));
            ask(7, name + ", asks", scene, x -> x.asks(v, v, 1));
            ask(11, name + ", told", scene, x -> x.told(v, 5));
            ask(12, name + ", paper", scene, x -> x.paper(1 + v, 3));
            ask(13, name + ", hearing", scene, x -> x.hearing(v, 1, 2 * v));
            ask(17, name + ", run", scene, x -> x.run(40, v));
            ask(17, name + ", run of MIND", scene, x -> x.run(40, 10 + v));
            ask(17, name + ", run of LOST", scene, x -> x.run(40, 20 + v));
            ask(18, name + ", when", scene, x -> x.when(7 + v));
            ask(19, name + ", sitting", scene, x -> x.sitting(v));
            ask(20, name + ", burglary", scene, x -> x.burglary(40, v));
            ask(21, name + ", wants", scene, x -> x.wants(0, 1 + v, v));
            ask(22, name + ", fullest", scene, x -> x.fullest(v));
            ask(23, name + ", cruel", scene, JudgesByLoss::cruel);
            ask(24, name + ", ruin", scene, x -> x.ruin(v));
            ask(25, name + ", tells", scene, x -> x.tells(3 * v));
            ask(26, name + ", kinds", scene, x -> x.kinds(0, v, v));
            ask(27, name + ", turned", scene, x -> x.turned(0, v));
            ask(28, name + ", states", scene, x -> x.states(0, v, 1 + v, v));
            ask(29, name + ", dropped", scene, x -> x.dropped(3 * v));
            ask(30, name + ", laws", scene, x -> x.laws(3 * v));
            ask(32, name + ", drawn", scene, x -> x.drawn(7 + v, v));
            ask(33, name + ", odds", scene, x -> x.odds(7, 40, 1, v));
            ask(40, name + ", taken", scene, x -> x.taken(7 * v, 6 * v));
        }
    }

    private static void just(int promise, String call, ToLongFunction<JudgesByLoss> one,
        ToLongFunction<JudgesByLoss> other) {
        JudgesByLoss x = Scenes.some();
        JudgesByLoss y = Scenes.some();
        one.applyAsLong(x);
        other.applyAsLong(y);
        due.promise(promise, call);
        due.same("changes just that", Probe.of(x), Probe.of(y));
    }

    /** The same change had in two ways. */
    private static void changed() {
        just(31, "film", x -> x.film(0, 2), x -> x.sheet(0, 0, 2) + x.cell(0, 0, 1));
        just(31, "film of a SHEET that is missing", x -> x.film(2, 3), x -> x.sheet(2, 0, 3) + x.cell(2, 0, 1));
    }
}
