import java.lang.reflect.Array;
import java.util.ArrayList;
import java.util.List;
import java.util.Set;
import java.util.TreeSet;
import java.util.function.BiConsumer;
import java.util.function.Consumer;
import java.util.function.ToIntFunction;

/**
 * The document once more, in another manner than the class: sets for bits, trees for texts, the machine's own
 * rows and exceptions for sheets, trying all for the best. Its public methods bear the names of the face.
 */
public final class Model {
    private static final class Judge {
        int kind, more, mind, busy;
        Set<Integer> lost = new TreeSet<>();

        Judge copy() {
            Judge other = new Judge();
            other.kind = kind;
            other.more = more;
            other.mind = mind;
            other.busy = busy;
            other.lost = new TreeSet<>(lost);
            return other;
        }
    }

    private static final class Case {
        Set<Integer> about;
        int hard, waited;

        Case copy() {
            Case other = new Case();
            other.about = about;
            other.hard = hard;
            other.waited = waited;
            return other;
        }
    }

    private interface Tree {
        int value(Judge judge, Case asked, int day);
    }

    private static final class Fault extends RuntimeException {
        private static final long serialVersionUID = 1L;
        final int place;

        Fault(int place) {
            super(null, null, false, false);
            this.place = place;
        }
    }

    /** All that days change, and THE LAW. */
    private final class World {
        List<Judge> judges = new ArrayList<>();
        Case[] cases = new Case[8];
        int day, heard, law;

        World copy() {
            World other = new World();
            for (Judge judge : judges) {
                other.judges.add(judge.copy());
            }
            for (int c = 0; c < 8; c++) {
                other.cases[c] = cases[c] == null ? null : cases[c].copy();
            }
            other.day = day;
            other.heard = heard;
            other.law = law;
            return other;
        }

        int says(int part, Judge judge, Case asked) {
            int value = texts.get(law)[part].value(judge, asked, day);
            int least = part == 2 ? -99 : 0;
            return value < least ? least : value > 99 ? 99 : value;
        }

        boolean may(Judge judge, Case asked) {
            Set<Integer> missing = new TreeSet<>(asked.about);
            missing.removeAll(judge.lost);
            int needed = says(0, judge, asked);
            switch (judge.kind) {
                case 0: return missing.isEmpty() && judge.mind >= needed;
                case 1: return missing.size() < 2 && judge.mind >= needed;
                case 2: return day % 10 >= judge.more && missing.isEmpty() && judge.mind >= needed;
                case 3:
                    if (asked.about.equals(Set.of(judge.more))) {
                        return true;
                    }
                    return asked.about.size() >= 3 && missing.size() < 2 && judge.mind >= needed;
                case 4: return day % 10 >= judge.more && missing.isEmpty() && judge.mind >= needed + needed;
                default: return day % 7 == judge.more;
            }
        }

        int takes(Judge judge, Case asked) {
            int said = says(1, judge, asked);
            int days = judge.kind == 1 || judge.kind == 3 ? said + judge.more : judge.kind == 4 ? said + said : said;
            return days < 1 ? 1 : days;
        }

        int judges(Judge judge, Case asked) {
            int said = says(2, judge, asked);
            switch (judge.kind) {
                case 2: case 4: return said + judge.more;
                case 3: return said < 0 ? -(-said / 2) : said / 2;
                case 5: return 0 - said;
                default: return said;
            }
        }

        boolean can(Judge judge, Case asked) {
            return judge.busy == 0 && may(judge, asked);
        }

        int hearing(Judge judge, int c) {
            Case asked = cases[c];
            int hardness = judges(judge, asked);
            int days = takes(judge, asked);
            judge.busy = days;
            for (int thing : asked.about) {
                if (judge.lost.contains(thing)) {
                    judge.lost.remove(thing);
                    break;
                }
            }
            judge.mind += hardness;
            if (judge.mind < 0) {
                judge.mind = 0;
            }
            if (judge.mind > 99) {
                judge.mind = 99;
            }
            cases[c] = null;
            if (heard < 999) {
                heard++;
            }
            return hardness;
        }

        Set<Integer> day() {
            Set<Integer> done = new TreeSet<>();
            for (Judge judge : judges) {
                if (judge.busy > 0) {
                    judge.busy--;
                }
            }
            for (int c = 0; c < 8; c++) {
                if (cases[c] == null) {
                    continue;
                }
                Judge taker = null;
                for (Judge judge : judges) {
                    if (taker == null && can(judge, cases[c])) {
                        taker = judge;
                    }
                }
                if (taker != null) {
                    hearing(taker, c);
                    done.add(c);
                } else if (cases[c].waited < 99) {
                    cases[c].waited++;
                }
            }
            day++;
            return done;
        }

        int days(int n) {
            int sum = 0;
            for (int i = 0; i < n; i++) {
                sum += day().size();
            }
            return sum;
        }

        Set<Integer> there() {
            Set<Integer> all = new TreeSet<>();
            for (int c = 0; c < 8; c++) {
                if (cases[c] != null) {
                    all.add(c);
                }
            }
            return all;
        }
    }

    /** Reads a text by the grammar, a method for each of its names. */
    private static final class Grammar {
        final String tape;
        int place;
        int open;

        Grammar(String tape) {
            this.tape = tape;
        }

        String peek() {
            while (place < tape.length() && (tape.charAt(place) == 32 || tape.charAt(place) == 10)) {
                place++;
            }
            int end = place;
            while (end < tape.length() && tape.charAt(end) >= 'a' && tape.charAt(end) <= 'z') {
                end++;
            }
            if (end == place) {
                while (end < tape.length() && tape.charAt(end) >= '0' && tape.charAt(end) <= '9') {
                    end++;
                }
            }
            if (end == place && end < tape.length()) {
                end++;
            }
            return tape.substring(place, end);
        }

        String take() {
            String token = peek();
            place += token.length();
            return token;
        }

        void want(String token) {
            if (!peek().equals(token)) {
                throw new Fault(place);
            }
            take();
        }

        Tree[] text() {
            Tree[] parts = new Tree[3];
            String[] keys = {"needs", "takes", "judges"};
            for (int i = 0; i < 3; i++) {
                want(keys[i]);
                parts[i] = e();
                want(";");
            }
            want("");
            return parts;
        }

        Tree e() {
            Tree left = and();
            while (peek().equals("or")) {
                take();
                Tree a = left;
                Tree b = and();
                left = (j, c, d) -> a.value(j, c, d) != 0 | b.value(j, c, d) != 0 ? 1 : 0;
            }
            return left;
        }

        Tree and() {
            Tree left = not();
            while (peek().equals("and")) {
                take();
                Tree a = left;
                Tree b = not();
                left = (j, c, d) -> a.value(j, c, d) != 0 & b.value(j, c, d) != 0 ? 1 : 0;
            }
            return left;
        }

        void opened() {
            if (open == 5) {
                throw new Fault(place);
            }
            take();
            open++;
        }

        Tree not() {
            if (peek().equals("not")) {
                opened();
                Tree a = not();
                open--;
                return (j, c, d) -> a.value(j, c, d) == 0 ? 1 : 0;
            }
            Tree a = sum();
            if (peek().equals("<")) {
                take();
                Tree b = sum();
                return (j, c, d) -> a.value(j, c, d) < b.value(j, c, d) ? 1 : 0;
            }
            if (peek().equals("=")) {
                take();
                Tree b = sum();
                return (j, c, d) -> a.value(j, c, d) == b.value(j, c, d) ? 1 : 0;
            }
            return a;
        }

        Tree sum() {
            Tree left = term();
            while (peek().equals("+") || peek().equals("-")) {
                boolean plus = take().equals("+");
                Tree a = left;
                Tree b = term();
                left = (j, c, d) -> plus ? a.value(j, c, d) + b.value(j, c, d) : a.value(j, c, d) - b.value(j, c, d);
            }
            return left;
        }

        Tree term() {
            Tree left = one();
            while (peek().equals("*")) {
                take();
                Tree a = left;
                Tree b = one();
                left = (j, c, d) -> a.value(j, c, d) * b.value(j, c, d);
            }
            return left;
        }

        Tree one() {
            String token = peek();
            if (token.equals("-")) {
                opened();
                Tree a = one();
                open--;
                return (j, c, d) -> -a.value(j, c, d);
            }
            if (token.equals("(")) {
                opened();
                Tree a = e();
                want(")");
                open--;
                return a;
            }
            Tree leaf = leaf(token);
            if (leaf == null) {
                throw new Fault(place);
            }
            take();
            return leaf;
        }

        static Tree leaf(String token) {
            if (!token.isEmpty() && token.length() < 5 && token.charAt(0) >= '0' && token.charAt(0) <= '9') {
                int number = Integer.parseInt(token);
                return (j, c, d) -> number;
            }
            switch (token) {
                case "hard": return (j, c, d) -> c.hard;
                case "things": return (j, c, d) -> c.about.size();
                case "mind": return (j, c, d) -> j.mind;
                case "lost": return (j, c, d) -> j.lost.size();
                case "day": return (j, c, d) -> d;
                case "more": return (j, c, d) -> j.more;
                default: return null;
            }
        }
    }

    private final List<Tree[]> texts = new ArrayList<>();
    private final StringBuilder tape = new StringBuilder();
    private final Object[] sheets = new Object[4];
    private World world = new World();
    private World image;

    public Model() {
        texts.add(new Grammar("needs hard;takes things;judges mind;").text());
    }

    private static Set<Integer> set(int bits) {
        Set<Integer> set = new TreeSet<>();
        for (int i = 0; i < 10; i++) {
            if ((bits & 1 << i) != 0) {
                set.add(i);
            }
        }
        return set;
    }

    private static int bits(Set<Integer> set) {
        int bits = 0;
        for (int i : set) {
            bits += 1 << i;
        }
        return bits;
    }

    private static boolean in(int v, int least, int most) {
        return least <= v && v <= most;
    }

    private boolean noJudge(int p) {
        return !in(p, 0, world.judges.size() - 1);
    }

    private boolean noCase(int c) {
        return !in(c, 0, 7) || world.cases[c] == null;
    }

    public int count(int what) {
        int[] all = {world.judges.size(), world.there().size(), world.heard, texts.size(), world.law,
            tape.length(), world.day};
        return in(what, 0, 6) ? all[what] : -2;
    }

    public int dawn(int v) {
        if (!in(v, 0, 999)) {
            return -2;
        }
        int was = world.day;
        world.day = v;
        return was;
    }

    public int feed(int n, int a, int b, int c, int d, int e) {
        int[] five = {a, b, c, d, e};
        for (int v : five) {
            if (!in(v, 0, 255)) {
                return -2;
            }
        }
        if (!in(n, 1, 5)) {
            return -2;
        }
        if (tape.length() + n > 160) {
            return -4;
        }
        for (int i = 0; i < n; i++) {
            tape.append((char) five[i]);
        }
        return tape.length();
    }

    public int text() {
        if (texts.size() == 6) {
            return -4;
        }
        String all = tape.toString();
        tape.setLength(0);
        try {
            texts.add(new Grammar(all).text());
            return texts.size() - 1;
        } catch (Fault fault) {
            return -100 - fault.place;
        }
    }

    public int force(int t) {
        if (!in(t, 0, texts.size() - 1)) {
            return -2;
        }
        int was = world.law;
        world.law = t;
        return was;
    }

    public int asks(int part, int p, int c) {
        if (!in(part, 0, 2) || noJudge(p) || noCase(c)) {
            return -1000;
        }
        return world.says(part, world.judges.get(p), world.cases[c]);
    }

    public int judge(int kindMore, int own, int minds) {
        if (!in(kindMore, 0, 59) || !in(own, 0, 1023) || !in(minds, 0, 99)) {
            return -2;
        }
        if (world.judges.size() == 6) {
            return -4;
        }
        Judge judge = new Judge();
        judge.kind = kindMore / 10;
        judge.more = kindMore % 10;
        judge.lost = set(own);
        judge.mind = minds;
        world.judges.add(judge);
        return world.judges.size() - 1;
    }

    public int file(int things, int hardness) {
        if (!in(things, 1, 1023) || !in(hardness, 0, 99)) {
            return -2;
        }
        for (int c = 0; c < 8; c++) {
            if (world.cases[c] == null) {
                world.cases[c] = new Case();
                world.cases[c].about = set(things);
                world.cases[c].hard = hardness;
                return c;
            }
        }
        return -4;
    }

    public int put(int p, int what, int v) {
        if (noJudge(p)) {
            return -5;
        }
        if (!in(what, 0, 2) || v < 0 || v > (what == 0 ? 1023 : 99)) {
            return -7;
        }
        int was = told(p, what);
        Judge judge = world.judges.get(p);
        if (what == 0) {
            judge.lost = set(v);
        } else if (what == 1) {
            judge.mind = v;
        } else {
            judge.busy = v;
        }
        return was;
    }

    public int told(int p, int what) {
        if (noJudge(p)) {
            return -5;
        }
        Judge judge = world.judges.get(p);
        switch (what) {
            case 0: return bits(judge.lost);
            case 1: return judge.mind;
            case 2: return judge.busy;
            case 3: return judge.kind;
            case 4: return judge.more;
            case 5:
                Set<Integer> able = world.there();
                able.removeIf(c -> !world.may(judge, world.cases[c]));
                return bits(able);
            default: return -7;
        }
    }

    public int paper(int c, int what) {
        if (noCase(c)) {
            return -6;
        }
        Case asked = world.cases[c];
        if (what == 3) {
            int sum = 0;
            for (int p = 0; p < world.judges.size(); p++) {
                sum += world.may(world.judges.get(p), asked) ? 1 << p : 0;
            }
            return sum;
        }
        return what == 0 ? bits(asked.about) : what == 1 ? asked.hard : what == 2 ? asked.waited : -7;
    }

    public int hearing(int p, int c, int what) {
        if (noJudge(p) || noCase(c)) {
            return noJudge(p) ? -5 : -6;
        }
        Judge judge = world.judges.get(p);
        Case asked = world.cases[c];
        if (what == 0) {
            return world.may(judge, asked) ? 1 : 0;
        }
        return what == 1 ? world.takes(judge, asked) : what == 2 ? 1000 + world.judges(judge, asked) : -7;
    }

    public int hear(int p, int c) {
        if (noJudge(p) || noCase(c)) {
            return noJudge(p) ? -5 : -6;
        }
        Judge judge = world.judges.get(p);
        return world.can(judge, world.cases[c]) ? 1000 + world.hearing(judge, c) : -3;
    }

    public int rob(int p, int things) {
        if (noJudge(p) || !in(things, 0, 1023)) {
            return noJudge(p) ? -5 : -7;
        }
        for (int thing : set(things)) {
            turn(world.judges.get(p), thing);
        }
        return bits(world.judges.get(p).lost);
    }

    private static void turn(Judge judge, int thing) {
        if (!judge.lost.remove(thing)) {
            judge.lost.add(thing);
        }
    }

    public int day() {
        return world.day == 999 ? -3 : bits(world.day());
    }

    public int run(int n, int what) {
        if (!in(n, 0, 40) || what < 0 || what > 29 || what / 10 == 0 && what > 2 || what > 9 && noJudge(what % 10)) {
            return -2;
        }
        World then = world.copy();
        int heard = then.days(n);
        if (what > 9) {
            Judge judge = then.judges.get(what % 10);
            return what < 20 ? judge.mind : bits(judge.lost);
        }
        int waited = 0;
        for (int c : then.there()) {
            waited += then.cases[c].waited;
        }
        return what == 0 ? bits(then.there()) : what == 1 ? heard : waited;
    }

    public int when(int what) {
        if (!in(what, 0, 8)) {
            return -7;
        }
        if (what < 8 && noCase(what)) {
            return -6;
        }
        for (int n = 0; n <= 60; n++) {
            World then = world.copy();
            then.days(n);
            if (what == 8 ? then.there().isEmpty() : then.cases[what] == null) {
                return n;
            }
        }
        return -1;
    }

    private int[] best;

    public int sitting(int what) {
        if (!in(what, 0, 1)) {
            return -2;
        }
        boolean[][] can = new boolean[8][6];
        for (int c : world.there()) {
            for (int p = 0; p < world.judges.size(); p++) {
                can[c][p] = world.can(world.judges.get(p), world.cases[c]);
            }
        }
        best = new int[] {-1, 0};
        tryAll(can, 0, new boolean[6], 0, 0);
        return best[what];
    }

    private void tryAll(boolean[][] can, int c, boolean[] sits, int number, int cases) {
        if (c == 8) {
            if (cases > best[0] || cases == best[0] && number < best[1]) {
                best = new int[] {cases, number};
            }
            return;
        }
        tryAll(can, c + 1, sits, number * 10, cases);
        for (int p = 0; p < 6; p++) {
            if (can[c][p] && !sits[p]) {
                sits[p] = true;
                tryAll(can, c + 1, sits, number * 10 + p + 1, cases + 1);
                sits[p] = false;
            }
        }
    }

    public int burglary(int n, int what) {
        if (!in(n, 0, 40) || !in(what, 0, 1)) {
            return -2;
        }
        int most = world.copy().days(n);
        int which = -1;
        for (int i = 0; i < 10 * world.judges.size(); i++) {
            if (!world.judges.get(i / 10).lost.contains(i % 10)) {
                World then = world.copy();
                then.judges.get(i / 10).lost.add(i % 10);
                int heard = then.days(n);
                if (heard > most) {
                    most = heard;
                    which = i;
                }
            }
        }
        return what == 0 ? which : most;
    }

    public int wants(int p, int c, int what) {
        if (noJudge(p) || noCase(c)) {
            return noJudge(p) ? -5 : -6;
        }
        if (!in(what, 0, 1)) {
            return -7;
        }
        for (int size = 0; size <= 10; size++) {
            for (int more = 0; more < 1024; more++) {
                World then = world.copy();
                Judge judge = then.judges.get(p);
                if (set(more).size() == size && (bits(judge.lost) & more) == 0) {
                    judge.lost.addAll(set(more));
                    if (then.may(judge, then.cases[c])) {
                        return what == 0 ? more : size;
                    }
                }
            }
        }
        return -1;
    }

    public int fullest(int what) {
        if (!in(what, 0, 1)) {
            return -2;
        }
        int best = -1;
        int rank = -1;
        for (int p = 0; p < world.judges.size(); p++) {
            int own = 100 * set(told(p, 5)).size() + world.judges.get(p).lost.size();
            if (own > rank) {
                best = p;
                rank = own;
            }
        }
        return what == 0 ? best : best < 0 ? 0 : rank / 100;
    }

    public int cruel() {
        Set<Integer> left = world.there();
        left.removeIf(c -> paper(c, 3) != 0);
        return bits(left);
    }

    private static long lowest(int above, int below, int part) {
        for (int d = below; d > 1; d--) {
            if (above % d == 0 && below % d == 0) {
                return lowest(above / d, below / d, part);
            }
        }
        return part == 0 ? above : below;
    }

    public long ruin(int part) {
        if (!in(part, 0, 1) || world.judges.isEmpty()) {
            return -4611686018427387904L;
        }
        int sum = 0;
        for (Judge judge : world.judges) {
            sum += judge.lost.size();
        }
        return lowest(sum, world.judges.size(), part);
    }

    private int refusal(int s, boolean ofJudge, int p) {
        if (!in(s, 0, 3)) {
            return -2;
        }
        if (sheets[s] == null) {
            return -11;
        }
        if (Array.getLength(sheets[s]) > 20) {
            return -2;
        }
        return ofJudge && noJudge(p) ? -5 : 0;
    }

    private int other(int s, Consumer<World> change) {
        World then = world.copy();
        change.accept(then);
        for (int i = 0; i < Array.getLength(sheets[s]); i++) {
            if (then.day().size() != Array.getInt(sheets[s], i)) {
                return i;
            }
        }
        return -1;
    }

    private int fitting(int s, int from, int to, BiConsumer<World, Integer> change,
        ToIntFunction<Set<Integer>> answer) {
        Set<Integer> fits = new TreeSet<>();
        for (int v = from; v <= to; v++) {
            int value = v;
            if (other(s, then -> change.accept(then, value)) == -1) {
                fits.add(v);
            }
        }
        return answer.applyAsInt(fits);
    }

    public int tells(int s) {
        int refusal = refusal(s, false, 0);
        return refusal != 0 ? refusal : other(s, then -> { });
    }

    public int kinds(int s, int p, int sort) {
        int refusal = refusal(s, true, p);
        if (refusal != 0 || !in(sort, 0, 1)) {
            return refusal != 0 ? refusal : -7;
        }
        if (sort == 0) {
            return fitting(s, 0, 5, (then, v) -> then.judges.get(p).kind = v, Model::bits);
        }
        return fitting(s, 0, 9, (then, v) -> then.judges.get(p).more = v, Model::bits);
    }

    public int turned(int s, int p) {
        int refusal = refusal(s, true, p);
        return refusal != 0 ? refusal : fitting(s, 0, 9, (then, v) -> turn(then.judges.get(p), v), Model::bits);
    }

    public int states(int s, int p, int sort, int what) {
        int refusal = refusal(s, true, p);
        if (refusal != 0 || !in(sort, 1, 2) || !in(what, 0, 1)) {
            return refusal != 0 ? refusal : -7;
        }
        return fitting(s, 0, 99, (then, v) -> {
            if (sort == 1) {
                then.judges.get(p).mind = v;
            } else {
                then.judges.get(p).busy = v;
            }
        }, fits -> what == 0 ? fits.size() : fits.isEmpty() ? -1 : fits.iterator().next());
    }

    public int dropped(int s) {
        int refusal = refusal(s, false, 0);
        if (refusal != 0) {
            return refusal;
        }
        return fitting(s, 0, 7, (then, c) -> then.cases[c] = null, Model::bits) & bits(world.there());
    }

    public int laws(int s) {
        int refusal = refusal(s, false, 0);
        return refusal != 0 ? refusal : fitting(s, 0, texts.size() - 1, (then, t) -> then.law = t, Model::bits);
    }

    public int film(int s, int n) {
        if (!in(s, 0, 3) || !in(n, 0, 20)) {
            return in(s, 0, 3) ? -7 : -2;
        }
        byte[] row = new byte[n];
        World then = world.copy();
        for (int i = 0; i < n; i++) {
            row[i] = (byte) then.day().size();
        }
        sheets[s] = row;
        return n;
    }

    private World burgled(int seed) {
        World then = world.copy();
        then.heard = 0;
        long lot = (seed + 1) * 48271L % 2147483647L;
        for (int i = 0; i < 10; i++) {
            long first = lot;
            long second = first * 48271L % 2147483647L;
            if (first % 6 < then.judges.size()) {
                turn(then.judges.get((int) (first % 6)), (int) (second % 10));
            }
            then.day();
            lot = second * 48271L % 2147483647L;
        }
        return then;
    }

    public int drawn(int seed, int what) {
        if (!in(seed, 0, 99999) || !in(what, 0, 1)) {
            return -2;
        }
        return what == 0 ? burgled(seed).heard : bits(burgled(seed).there());
    }

    public long odds(int seed, int seeds, int least, int part) {
        if (!in(seed, 0, 99999) || !in(seeds, 1, 40) || !in(least, 0, 8) || !in(part, 0, 1)) {
            return -4611686018427387904L;
        }
        int good = 0;
        for (int i = 0; i < seeds; i++) {
            good += burgled(seed + i).heard >= least ? 1 : 0;
        }
        return lowest(good, seeds, part);
    }

    public int image() {
        image = world.copy();
        return world.judges.size();
    }

    public int back() {
        if (image == null) {
            return -3;
        }
        world = image.copy();
        return world.judges.size();
    }

    public int sheet(int s, int sort, int n) {
        if (!in(s, 0, 3) || !in(sort, -1, 2) || sort >= 0 && n > 40) {
            return -2;
        }
        try {
            sheets[s] = sort == -1 ? null : sort == 0 ? new byte[n] : sort == 1 ? new short[n] : new int[n];
            return 1;
        } catch (NegativeArraySizeException e) {
            return -14;
        }
    }

    public int cell(int s, int i, int v) {
        if (!in(s, 0, 3)) {
            return -2;
        }
        try {
            if (sheets[s] instanceof byte[]) {
                ((byte[]) sheets[s])[i] = (byte) v;
            } else if (sheets[s] instanceof short[]) {
                ((short[]) sheets[s])[i] = (short) v;
            } else {
                ((int[]) sheets[s])[i] = v;
            }
            return 1;
        } catch (NullPointerException e) {
            return -11;
        } catch (ArrayIndexOutOfBoundsException e) {
            return -12;
        }
    }

    @SuppressWarnings("SuspiciousSystemArraycopy")
    public int copy(int s, int i, int other, int j, int n) {
        if (!in(s, 0, 3) || !in(other, 0, 3)) {
            return -2;
        }
        try {
            System.arraycopy(sheets[s], i, sheets[other], j, n);
            return n;
        } catch (NullPointerException e) {
            return -11;
        } catch (ArrayStoreException e) {
            return -13;
        } catch (IndexOutOfBoundsException e) {
            return -12;
        }
    }

    public int judgesBy(int s, int sort, int from, int n) {
        if (!in(s, 0, 3) || !in(sort, 0, 2) || !in(n, 0, 6)) {
            return -2;
        }
        Class<?>[] sorts = {byte[].class, short[].class, int[].class};
        if (sheets[s] == null) {
            return -11;
        }
        int came = 0;
        try {
            Object row = sorts[sort].cast(sheets[s]);
            for (int i = 0; i < n; i++) {
                int a = Array.getInt(row, from + 3 * i);
                int b = Array.getInt(row, from + 3 * i + 1);
                int c = Array.getInt(row, from + 3 * i + 2);
                came += judge(a, b, c) >= 0 ? 1 : 0;
            }
            return came;
        } catch (ClassCastException e) {
            return -13;
        } catch (ArrayIndexOutOfBoundsException e) {
            return -12;
        }
    }

    public int taken(int i, int kind) {
        if (!in(kind, 0, 6) || !in(i, 0, 13)) {
            return in(kind, 0, 6) ? -12 : -2;
        }
        if (i > 5) {
            return noCase(i - 6) ? -11 : kind == 6 ? bits(world.cases[i - 6].about) : -13;
        }
        if (noJudge(i)) {
            return -11;
        }
        int[] above = {-1, 0, 0, 1, 2, 0};
        for (int k = world.judges.get(i).kind; k >= 0; k = above[k]) {
            if (k == kind) {
                return i;
            }
        }
        return -13;
    }
}
