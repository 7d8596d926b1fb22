import java.util.ArrayDeque;
import java.util.ArrayList;
import java.util.Arrays;
import java.util.HashMap;
import java.util.List;
import java.util.Map;
import java.util.Random;
import java.util.function.IntPredicate;
import java.util.regex.Matcher;
import java.util.regex.Pattern;

/** Runs of calls of all sorts, each answer compared with that of a second, plain writing of the document. */
public final class ModelTest {
    private static final int NONE = -1, UNKNOWN = -2, OUTSIDE = -3, NOT = -4, FULL = -5;
    private static final int RUNS = 700, CALLS = 160;

    private static int wrong = 0;
    private static long checks = 0;

    private ModelTest() {
    }

    public static void main(String[] args) {
        int runs = args.length > 0 ? Integer.parseInt(args[0]) : RUNS;
        int seed = args.length > 1 ? Integer.parseInt(args[1]) : 1;
        for (int run = 0; run < runs && wrong < 20; run++) {
            new Run(seed * 100003L + run).go();
        }
        System.out.println(checks + " answers compared with the model's, " + wrong + " wrong");
        if (wrong != 0) {
            System.exit(1);
        }
    }

    /** One object and one model, told the same. */
    private static final class Run {
        private final Random random;
        private final long seed;
        private final SevenSpells x = new SevenSpells();
        private final Model m = new Model();
        private final List<String> calls = new ArrayList<>();
        private final int mostPeople;
        private final int mostSpells;

        Run(long seed) {
            this.seed = seed;
            random = new Random(seed);
            boolean great = random.nextInt(12) == 0;
            mostPeople = great ? 3 : 1 + random.nextInt(3);
            mostSpells = great ? 5 : random.nextInt(5);
        }

        void go() {
            tellText();
            for (int i = 0; i < CALLS; i++) {
                call();
                if (wrong >= 20) {
                    return;
                }
            }
            all();
        }

        private void same(String call, int got, int want) {
            checks++;
            calls.add(call + " = " + want);
            if (got != want) {
                wrong++;
                System.out.println("seed " + seed + ": " + call + " answered " + got + ", the model " + want);
                System.out.println("  behind " + String.join("; ", calls));
            }
        }

        private int near(int count) {
            int pick = random.nextInt(12);
            if (pick == 0) {
                int[] wild = {-1, -2, count, count + 1, 99, Integer.MAX_VALUE, Integer.MIN_VALUE};
                return wild[random.nextInt(wild.length)];
            }
            return random.nextInt(Math.max(count, 1));
        }

        private void tellText() {
            String text = new Texts(random, m.people, m.spells.size(), mostPeople, mostSpells).make();
            for (char c : text.toCharArray()) {
                same("write(" + (int) c + ")", x.write(c), m.write(c));
            }
            same("fault() of " + m.text, x.fault(), m.fault());
            same("land()", x.land(), m.land());
            if (m.text.length() > 0) {
                same("erase()", x.erase(), m.erase());
            }
        }

        private void call() {
            switch (random.nextInt(40)) {
                case 0:
                    if (random.nextInt(4) == 0) {
                        tellText();
                    }
                    break;
                case 1: all(); break;
                case 2: { int k = near(2); same("keep(" + k + ")", x.keep(k), m.keep(k)); break; }
                case 3: { int k = near(2); same("back(" + k + ")", x.back(k), m.back(k)); break; }
                case 4: case 5: same("undo()", x.undo(), m.undo()); break;
                case 6: case 7: case 8: row(); break;
                case 9: if (random.nextInt(6) == 0) same("burn()", x.burn(), m.burn()); break;
                case 10: { int w = near(2); same("judge(" + w + ")", x.judge(w), m.judge(w)); break; }
                case 11: case 12: prince(); break;
                case 13: if (random.nextInt(5) == 0) same("dismiss()", x.dismiss(), m.dismiss()); break;
                case 14: { int w = near(2); same("inLine(" + w + ")", x.inLine(w), m.inLine(w)); break; }
                case 15: case 16: case 17: tried(); break;
                case 18: if (random.nextInt(3) == 0) same("forget()", x.forget(), m.forget()); break;
                case 19: { int w = near(5); same("mayBe(" + w + ")", x.mayBe(w), m.mayBe(w)); break; }
                case 20: same("next()", x.next(), m.next()); break;
                case 21: case 22: case 23: foretold(); break;
                case 24: can(); break;
                default: act(); break;
            }
        }

        private void row() {
            int p = near(m.people), s = near(5), w = near(3);
            same("row(" + p + ", " + s + ", " + w + ")", x.row(p, s, w), m.row(p, s, w));
        }

        private void prince() {
            int p = near(m.people), d = near(7), w = near(m.people);
            same("prince(" + p + ", " + d + ", " + w + ")", x.prince(p, d, w), m.prince(p, d, w));
        }

        private void tried() {
            int kisser = random.nextInt(3) == 0 ? NONE : near(m.people);
            int weepers = near(1 << m.people), day = near(7), broken = near(4), lifted = near(2);
            if (random.nextInt(3) != 0) {
                lifted = kisser == 0 || day == 2 && (broken & 1) == 0 ? 1 : 0;
            }
            same("tried(" + kisser + ", " + weepers + ", " + day + ", " + broken + ", " + lifted + ")",
                x.tried(kisser, weepers, day, broken, lifted), m.tried(kisser, weepers, day, broken, lifted));
        }

        private void can() {
            int p = near(m.people), s = near(5), w = near(3);
            same("can(" + p + ", " + s + ", " + w + ")", x.can(p, s, w), m.can(p, s, w));
        }

        private void act() {
            int p = near(m.people), s = near(5), w = s == 0 ? near(m.people) : near(2);
            if (s == 4 && random.nextInt(2) == 0) {
                s = random.nextInt(4);
            }
            same("act(" + p + ", " + s + ", " + w + ")", x.act(p, s, w), m.act(p, s, w));
        }

        private void foretold() {
            int set = near(1 << m.spells.size());
            switch (random.nextInt(10)) {
                case 0: same("fewest(" + set + ")", x.fewest(set), m.fewest(set)); break;
                case 1: way(set); break;
                case 2:
                    for (int w = 0; w < 3; w++) {
                        same("helpers(" + set + ", " + w + ")", x.helpers(set, w), m.helpers(set, w));
                    }
                    break;
                case 3: same("nights(" + set + ")", x.nights(set), m.nights(set)); break;
                case 4: same("never()", x.never(), m.never()); break;
                case 5:
                    for (int s = -1; s <= m.spells.size(); s++) {
                        same("ahead(" + s + ")", x.ahead(s), m.ahead(s));
                    }
                    break;
                case 6: same("props()", x.props(), m.props()); break;
                case 7:
                    for (int w = 0; w < 3; w++) {
                        same("gone(" + set + ", " + w + ")", x.gone(set, w), m.gone(set, w));
                    }
                    break;
                case 8: { int n = near(20); same("many(" + n + ")", x.many(n), m.many(n)); break; }
                default: same("farthest()", x.farthest(), m.farthest()); break;
            }
        }

        private void way(int set) {
            int length = Math.max(m.fewest(set), 0);
            for (int i = -1; i <= length; i++) {
                for (int w = 0; w < 3; w++) {
                    same("way(" + set + ", " + i + ", " + w + ")", x.way(set, i, w), m.way(set, i, w));
                }
            }
            int what = near(3);
            same("way(" + set + ", 0, " + what + ")", x.way(set, 0, what), m.way(set, 0, what));
        }

        /** All that can be seen of the land. */
        private void all() {
            for (int w = -1; w <= 13; w++) {
                same("count(" + w + ")", x.count(w), m.count(w));
            }
            for (int p = -1; p <= m.people; p++) {
                for (int w = -1; w <= 4; w++) {
                    same("person(" + p + ", " + w + ")", x.person(p, w), m.person(p, w));
                }
            }
            for (int s = -1; s <= m.spells.size(); s++) {
                same("laidBy(" + s + ")", x.laidBy(s), m.laidBy(s));
                for (int w = -1; w <= 6; w++) {
                    same("spell(" + s + ", " + w + ")", x.spell(s, w), m.spell(s, w));
                    same("as(" + s + ", " + w + ")", x.as(s, w), m.as(s, w));
                }
                for (int i = -1; i <= 3; i++) {
                    for (int w = -1; w <= 3; w++) {
                        same("term(" + s + ", " + i + ", " + w + ")", x.term(s, i, w), m.term(s, i, w));
                    }
                }
            }
            for (int p = 0; p < m.people; p++) {
                for (int s = 0; s < 5; s++) {
                    for (int w = 0; w < 3; w++) {
                        same("can(" + p + ", " + s + ", " + w + ")", x.can(p, s, w), m.can(p, s, w));
                    }
                }
            }
        }
    }

    /** Texts, most of them without a fault. */
    private static final class Texts {
        private final Random random;
        private final int mostPeople;
        private final int mostSpells;
        private int people;
        private int spells;

        Texts(Random random, int people, int spells, int mostPeople, int mostSpells) {
            this.random = random;
            this.people = people;
            this.spells = spells;
            this.mostPeople = mostPeople;
            this.mostSpells = mostSpells;
        }

        String make() {
            List<String> lines = new ArrayList<>();
            int pick = random.nextInt(10);
            if (pick < 6) {
                people = 1 + random.nextInt(mostPeople);
                spells = 0;
                lines.add("land " + people);
            } else if (pick < 8) {
                spells = 0;
                lines.add("bare");
            }
            int length = random.nextInt(25) == 0 ? 9 : random.nextInt(mostSpells + 2);
            for (int i = 0; i < length; i++) {
                lines.add(line());
            }
            String text = String.join(random.nextBoolean() ? ";" : " ; ", lines);
            return random.nextInt(4) == 0 ? spoilt(text) : text;
        }

        private String line() {
            int pick = random.nextInt(10);
            if (pick == 0) {
                return "day " + random.nextInt(7);
            }
            if (pick == 1) {
                return "broken " + random.nextInt(2);
            }
            return spells >= mostSpells && random.nextInt(4) != 0 ? "day 0" : spell();
        }

        private String spell() {
            int kind = random.nextInt(spells > 0 ? 4 : 3);
            String[] words = {"sleep", "frog", "mute", "bind"};
            StringBuilder line = new StringBuilder(words[kind]);
            line.append(' ').append(random.nextInt(kind == 3 ? spells : people)).append(" if ").append(term());
            for (int more = random.nextInt(4); more > 1; more--) {
                line.append(" and ").append(term());
            }
            if (random.nextInt(4) == 0) {
                line.append(" wakes ").append(random.nextInt(spells + 1));
            }
            spells++;
            return line.toString();
        }

        private String term() {
            switch (random.nextInt(11)) {
                case 0: case 1: case 2: return "kiss " + random.nextInt(people);
                case 3: case 4: return "weep " + random.nextInt(people);
                case 5: return "day " + random.nextInt(7);
                case 6: return "holds " + random.nextInt(spells + 1);
                case 7: return "gone " + random.nextInt(spells + 1);
                case 8: return "broken " + random.nextInt(2);
                case 9: return "whole " + random.nextInt(2);
                default: return "asked " + (1 + random.nextInt(random.nextInt(3) == 0 ? 7 : 2));
            }
        }

        private String spoilt(String text) {
            StringBuilder spoilt = new StringBuilder(text);
            for (int times = 1 + random.nextInt(2); times > 0; times--) {
                int at = random.nextInt(spoilt.length() + 1);
                String letters = "  ;;0123456789abdeikostw.A\n";
                switch (random.nextInt(3)) {
                    case 0: spoilt.insert(at, letters.charAt(random.nextInt(letters.length()))); break;
                    case 1: if (at < spoilt.length()) spoilt.deleteCharAt(at); break;
                    default: spoilt.setLength(at); break;
                }
            }
            return spoilt.toString();
        }
    }

    private static final class Spell {
        int kind;
        int on;
        int wakes = NONE;
        final List<int[]> terms = new ArrayList<>();
    }

    /** What is so in the land at one time. */
    private static final class World {
        boolean[] holds = new boolean[0];
        boolean[] broken = new boolean[2];
        boolean[] weeps = new boolean[3];
        int day;
        int asked;

        World copy() {
            World w = new World();
            w.holds = holds.clone();
            w.broken = broken.clone();
            w.weeps = weeps.clone();
            w.day = day;
            w.asked = asked;
            return w;
        }

        String key() {
            return Arrays.toString(holds) + Arrays.toString(broken) + Arrays.toString(weeps) + day + "," + asked;
        }
    }

    private static int bits(boolean[] set) {
        int bits = 0;
        for (int i = 0; i < set.length; i++) {
            bits += set[i] ? 1 << i : 0;
        }
        return bits;
    }

    /** All worlds that can come from one, with all deeds between them. */
    private static final class Graph {
        final List<World> worlds = new ArrayList<>();
        final List<int[]> deeds = new ArrayList<>();
        // from, deed's place in the order, to, lifted
        final List<int[]> edges = new ArrayList<>();

        Graph(Model m, World start) {
            deeds.addAll(m.deedsInOrder());
            Map<String, Integer> ids = new HashMap<>();
            ids.put(start.key(), 0);
            worlds.add(start);
            for (int i = 0; i < worlds.size(); i++) {
                for (int d = 0; d < deeds.size(); d++) {
                    int[] deed = deeds.get(d);
                    if (m.possible(worlds.get(i), deed)) {
                        World next = worlds.get(i).copy();
                        int lifted = m.doDeed(next, deed);
                        Integer id = ids.putIfAbsent(next.key(), worlds.size());
                        if (id == null) {
                            id = worlds.size();
                            worlds.add(next);
                        }
                        edges.add(new int[] {i, d, id, lifted});
                    }
                }
            }
        }

        /** Fewest deeds from each world to one in which none of the set holds; by the edges that are allowed. */
        int[] toGoal(int set, IntPredicate allowed) {
            int[] far = new int[worlds.size()];
            List<List<Integer>> into = new ArrayList<>();
            for (int i = 0; i < far.length; i++) {
                into.add(new ArrayList<>());
            }
            for (int e = 0; e < edges.size(); e++) {
                if (allowed.test(e)) {
                    into.get(edges.get(e)[2]).add(edges.get(e)[0]);
                }
            }
            ArrayDeque<Integer> queue = new ArrayDeque<>();
            for (int i = 0; i < far.length; i++) {
                boolean goal = (bits(worlds.get(i).holds) & set) == 0;
                far[i] = goal ? 0 : NONE;
                if (goal) {
                    queue.add(i);
                }
            }
            while (!queue.isEmpty()) {
                int at = queue.poll();
                for (int from : into.get(at)) {
                    if (far[from] == NONE) {
                        far[from] = far[at] + 1;
                        queue.add(from);
                    }
                }
            }
            return far;
        }

        int[] fromStart(boolean nightsOnly) {
            int[] far = new int[worlds.size()];
            Arrays.fill(far, Integer.MAX_VALUE);
            far[0] = 0;
            List<List<int[]>> out = new ArrayList<>();
            for (int i = 0; i < far.length; i++) {
                out.add(new ArrayList<>());
            }
            for (int[] edge : edges) {
                out.get(edge[0]).add(edge);
            }
            ArrayDeque<Integer> queue = new ArrayDeque<>();
            queue.add(0);
            while (!queue.isEmpty()) {
                int at = queue.poll();
                for (int[] edge : out.get(at)) {
                    int cost = !nightsOnly || deeds.get(edge[1])[1] == 4 ? 1 : 0;
                    if (far[at] + cost < far[edge[2]]) {
                        far[edge[2]] = far[at] + cost;
                        if (cost == 0) {
                            queue.addFirst(edge[2]);
                        } else {
                            queue.addLast(edge[2]);
                        }
                    }
                }
            }
            return far;
        }
    }

    /** The document once more, in its plainest form. */
    private static final class Model {
        int people = 2;
        List<Spell> spells = new ArrayList<>();
        World now = new World();
        int toldDay;
        boolean[] toldBroken = new boolean[2];
        int deeds;
        final StringBuilder text = new StringBuilder();
        final List<World> past = new ArrayList<>();
        final World[] kept = new World[2];
        final int[] keptDeeds = new int[2];
        final List<int[]> row = new ArrayList<>();
        final List<int[]> queue = new ArrayList<>();
        final List<int[]> tried = new ArrayList<>();
        private Graph graph;
        private String graphKey = "";

        // ---- texts

        int write(int letter) {
            if (letter < 0 || letter > 255) {
                return OUTSIDE;
            }
            if (text.length() == 240) {
                return FULL;
            }
            text.append((char) letter);
            return text.length();
        }

        int erase() {
            int had = text.length();
            text.setLength(0);
            return had;
        }

        int fault() {
            return new Parse(this).fault;
        }

        int land() {
            Parse parse = new Parse(this);
            if (parse.fault != NONE) {
                return NOT;
            }
            people = parse.people;
            spells = parse.spells;
            toldDay = parse.day;
            toldBroken = parse.broken;
            now = new World();
            now.holds = new boolean[spells.size()];
            Arrays.fill(now.holds, true);
            now.day = toldDay;
            now.broken = toldBroken.clone();
            deeds = 0;
            past.clear();
            Arrays.fill(kept, null);
            row.clear();
            queue.clear();
            tried.clear();
            text.setLength(0);
            graph = null;
            return parse.lines;
        }

        // ---- what is told

        private boolean isPerson(int p) {
            return p >= 0 && p < people;
        }

        private boolean isSpell(int s) {
            return s >= 0 && s < spells.size();
        }

        private boolean isSet(int set) {
            return set >= 0 && set < 1 << spells.size();
        }

        private boolean under(World w, int p, int kind) {
            for (int s = 0; s < spells.size(); s++) {
                if (w.holds[s] && spells.get(s).kind == kind && spells.get(s).on == p) {
                    return true;
                }
            }
            return false;
        }

        private boolean bound(World w, int s) {
            return under(w, s, 3);
        }

        int person(int p, int what) {
            if (!isPerson(p)) {
                return UNKNOWN;
            }
            if (what < 0 || what > 3) {
                return OUTSIDE;
            }
            return (what == 3 ? now.weeps[p] : under(now, p, what)) ? 1 : 0;
        }

        int spell(int s, int what) {
            if (!isSpell(s)) {
                return UNKNOWN;
            }
            if (what < 0 || what > 5) {
                return OUTSIDE;
            }
            Spell spell = spells.get(s);
            int[] all = {spell.kind, spell.on, now.holds[s] ? 1 : 0, bound(now, s) ? 1 : 0, spell.terms.size(), spell.wakes};
            return all[what];
        }

        private boolean so(World w, int s, int[] term, int[] deed) {
            int n = term[1];
            switch (term[0]) {
                case 0: return deed != null && deed[1] == 0 && deed[0] == n && spells.get(s).kind != 3
                    && deed[2] == spells.get(s).on;
                case 1: return w.weeps[n];
                case 2: return w.day == n;
                case 3: return w.holds[n];
                case 4: return !w.holds[n];
                case 5: return w.broken[n];
                case 6: return !w.broken[n];
                default: return w.asked >= n;
            }
        }

        int term(int s, int i, int what) {
            if (!isSpell(s) || i < 0 || i >= spells.get(s).terms.size()) {
                return UNKNOWN;
            }
            if (what < 0 || what > 2) {
                return OUTSIDE;
            }
            int[] term = spells.get(s).terms.get(i);
            return what < 2 ? term[what] : so(now, s, term, null) ? 1 : 0;
        }

        private int soNow(int s) {
            int n = 0;
            for (int[] term : spells.get(s).terms) {
                n += so(now, s, term, null) ? 1 : 0;
            }
            return n;
        }

        int as(int s, int kind) {
            if (!isSpell(s)) {
                return UNKNOWN;
            }
            if (kind < 0 || kind > 5) {
                return OUTSIDE;
            }
            int k = spells.get(s).kind;
            boolean is = kind == 0 || kind == k + 2 || kind == 1 && k != 3;
            return is ? soNow(s) : NOT;
        }

        int laidBy(int s) {
            if (!isSpell(s)) {
                return UNKNOWN;
            }
            int[] loved = new int[3];
            for (int[] term : spells.get(s).terms) {
                loved[new int[] {0, 0, 1, 2, 2, 2, 2, 1}[term[0]]]++;
            }
            int most = Math.max(loved[0], Math.max(loved[1], loved[2]));
            return loved[0] == most ? 0 : loved[1] == most ? 1 : 2;
        }

        // ---- deeds

        private int refused(int p, int sort, int which) {
            if (!isPerson(p) || sort == 0 && (!isPerson(which) || which == p) || sort == 2 && which != 0 && which != 1) {
                return UNKNOWN;
            }
            return sort < 0 || sort > 4 ? OUTSIDE : 0;
        }

        boolean possible(World w, int[] deed) {
            if (deed[1] == 4) {
                return true;
            }
            if (under(w, deed[0], 0)) {
                return false;
            }
            switch (deed[1]) {
                case 1: return !w.weeps[deed[0]];
                case 2: return !w.broken[deed[2]] && !under(w, deed[0], 1);
                case 3: return w.asked < 7 && !under(w, deed[0], 2);
                default: return true;
            }
        }

        int doDeed(World w, int[] deed) {
            switch (deed[1]) {
                case 1: w.weeps[deed[0]] = true; break;
                case 2: w.broken[deed[2]] = true; break;
                case 3: w.asked++; break;
                case 4:
                    w.day = (w.day + 1) % 7;
                    Arrays.fill(w.weeps, false);
                    break;
                default: break;
            }
            int lifted = 0;
            for (int s = 0; s < spells.size(); s++) {
                boolean lift = w.holds[s] && !bound(w, s);
                for (int[] term : spells.get(s).terms) {
                    lift = lift && so(w, s, term, deed);
                }
                if (lift) {
                    w.holds[s] = false;
                    if (spells.get(s).wakes != NONE) {
                        w.holds[spells.get(s).wakes] = true;
                    }
                    lifted |= 1 << s;
                }
            }
            return lifted;
        }

        List<int[]> deedsInOrder() {
            List<int[]> all = new ArrayList<>();
            for (int p = 0; p < people; p++) {
                for (int sort = 0; sort < 4; sort++) {
                    for (int which = 0; which < (sort == 0 ? people : sort == 2 ? 2 : 1); which++) {
                        if (sort != 0 || which != p) {
                            all.add(new int[] {p, sort, which});
                        }
                    }
                }
            }
            all.add(new int[] {NONE, 4, 0});
            return all;
        }

        int can(int p, int sort, int which) {
            int refused = refused(p, sort, which);
            return refused != 0 ? refused : possible(now, new int[] {p, sort, which}) ? 1 : 0;
        }

        int act(int p, int sort, int which) {
            int refused = refused(p, sort, which);
            if (refused != 0) {
                return refused;
            }
            int[] deed = {p, sort, which};
            if (!possible(now, deed)) {
                return NOT;
            }
            past.add(now.copy());
            if (past.size() > 8) {
                past.remove(0);
            }
            deeds++;
            return doDeed(now, deed);
        }

        int undo() {
            if (past.isEmpty()) {
                return NOT;
            }
            now = past.remove(past.size() - 1);
            deeds--;
            return past.size();
        }

        int keep(int k) {
            if (k != 0 && k != 1) {
                return UNKNOWN;
            }
            kept[k] = now.copy();
            keptDeeds[k] = deeds;
            return deeds;
        }

        int back(int k) {
            if (k != 0 && k != 1) {
                return UNKNOWN;
            }
            if (kept[k] == null) {
                return NOT;
            }
            now = kept[k].copy();
            deeds = keptDeeds[k];
            past.clear();
            return deeds;
        }

        // ---- foretold

        private Graph graph() {
            if (graph == null || !graphKey.equals(now.key())) {
                graph = new Graph(this, now.copy());
                graphKey = now.key();
            }
            return graph;
        }

        int fewest(int set) {
            return isSet(set) ? graph().toGoal(set, e -> true)[0] : UNKNOWN;
        }

        int way(int set, int i, int what) {
            if (!isSet(set)) {
                return UNKNOWN;
            }
            if (i < 0 || what < 0 || what > 2) {
                return OUTSIDE;
            }
            Graph g = graph();
            int[] far = g.toGoal(set, e -> true);
            if (i >= far[0]) {
                return NONE;
            }
            int at = 0;
            int[] deed = null;
            for (int step = 0; step <= i; step++) {
                int[] best = null;
                for (int[] edge : g.edges) {
                    if (edge[0] == at && far[edge[2]] == far[at] - 1 && (best == null || edge[1] < best[1])) {
                        best = edge;
                    }
                }
                deed = g.deeds.get(best[1]);
                at = best[2];
            }
            return deed[what];
        }

        int helpers(int set, int what) {
            if (!isSet(set)) {
                return UNKNOWN;
            }
            if (what < 0 || what > 1) {
                return OUTSIDE;
            }
            Graph g = graph();
            int best = NONE;
            for (int who = (1 << people) - 1; who >= 0; who--) {
                int doers = who;
                int far = g.toGoal(set, e -> {
                    int doer = g.deeds.get(g.edges.get(e)[1])[0];
                    return doer == NONE || (doers >> doer & 1) == 1;
                })[0];
                if (far != NONE && (best == NONE || Integer.bitCount(who) <= Integer.bitCount(best))) {
                    best = who;
                }
            }
            return best == NONE ? NONE : what == 0 ? Integer.bitCount(best) : best;
        }

        int nights(int set) {
            if (!isSet(set)) {
                return UNKNOWN;
            }
            Graph g = graph();
            int[] far = g.fromStart(true);
            int least = Integer.MAX_VALUE;
            for (int i = 0; i < far.length; i++) {
                if ((bits(g.worlds.get(i).holds) & set) == 0) {
                    least = Math.min(least, far[i]);
                }
            }
            return least == Integer.MAX_VALUE ? NONE : least;
        }

        int never() {
            int all = bits(now.holds);
            for (World w : graph().worlds) {
                all &= bits(w.holds);
            }
            return all;
        }

        int ahead(int s) {
            if (!isSpell(s)) {
                return UNKNOWN;
            }
            if (!now.holds[s] || (never() >> s & 1) == 1) {
                return NOT;
            }
            Graph g = graph();
            int found = 0;
            for (int t = 0; t < spells.size(); t++) {
                int other = t;
                if (t != s && now.holds[t] && g.toGoal(1 << s, e -> (g.edges.get(e)[3] >> other & 1) == 0)[0] == NONE) {
                    found |= 1 << t;
                }
            }
            return found;
        }

        int props() {
            int never = never();
            int found = 0;
            for (int s = 0; s < spells.size(); s++) {
                List<int[]> not = new ArrayList<>();
                for (int[] term : spells.get(s).terms) {
                    if (!so(now, s, term, null)) {
                        not.add(term);
                    }
                }
                if ((never >> s & 1) == 1 && not.size() == 1 && not.get(0)[0] == 4 && not.get(0)[1] != s
                        && (never >> not.get(0)[1] & 1) == 1) {
                    found |= 1 << s;
                }
            }
            return found;
        }

        int gone(int set, int what) {
            if (!isSet(set)) {
                return UNKNOWN;
            }
            if (what < 0 || what > 1) {
                return OUTSIDE;
            }
            int today = fewest(set);
            int best = NONE;
            int least = today == NONE ? Integer.MAX_VALUE : today;
            for (int s = 0; s < spells.size(); s++) {
                if (now.holds[s] && (set >> s & 1) == 0) {
                    World w = now.copy();
                    w.holds[s] = false;
                    int then = new Graph(this, w).toGoal(set, e -> true)[0];
                    if (then != NONE && then < least) {
                        least = then;
                        best = s;
                    }
                }
            }
            return best == NONE ? NONE : what == 0 ? best : least;
        }

        int many(int n) {
            if (n < 0) {
                return OUTSIDE;
            }
            int count = 0;
            for (int far : graph().fromStart(false)) {
                count += far == n ? 1 : 0;
            }
            return count;
        }

        int farthest() {
            return Arrays.stream(graph().fromStart(false)).max().getAsInt();
        }

        // ---- rows, princes

        int row(int p, int sort, int which) {
            int refused = refused(p, sort, which);
            if (refused != 0) {
                return refused;
            }
            if (row.size() == 12) {
                return FULL;
            }
            row.add(new int[] {p, sort, which});
            return row.size();
        }

        int burn() {
            int had = row.size();
            row.clear();
            return had;
        }

        int judge(int what) {
            if (what < 0 || what > 1) {
                return OUTSIDE;
            }
            World w = now.copy();
            int first = NONE;
            for (int i = 0; i < row.size() && first == NONE; i++) {
                if (possible(w, row.get(i))) {
                    doDeed(w, row.get(i));
                } else {
                    first = i;
                }
            }
            return what == 0 ? first : Integer.bitCount(bits(w.holds));
        }

        int prince(int p, int day, int whom) {
            if (!isPerson(p) || !isPerson(whom) || p == whom) {
                return UNKNOWN;
            }
            if (day < 0 || day > 6) {
                return OUTSIDE;
            }
            if (queue.size() == 5) {
                return FULL;
            }
            queue.add(new int[] {p, day, whom});
            return queue.size();
        }

        int dismiss() {
            int had = queue.size();
            queue.clear();
            return had;
        }

        int inLine(int what) {
            if (what < 0 || what > 1) {
                return OUTSIDE;
            }
            World w = now.copy();
            int lifted = 0;
            int nights = 0;
            for (int[] prince : queue) {
                while (w.day != prince[1]) {
                    lifted += Integer.bitCount(doDeed(w, new int[] {NONE, 4, 0}));
                    nights++;
                }
                if (!under(w, prince[0], 0)) {
                    lifted += Integer.bitCount(doDeed(w, new int[] {prince[0], 0, prince[2]}));
                }
            }
            return what == 0 ? lifted : nights;
        }

        // ---- a secret spell

        int tried(int kisser, int weepers, int day, int broken, int lifted) {
            if (kisser != NONE && !isPerson(kisser) || weepers < 0 || weepers >= 1 << people || broken < 0 || broken > 3) {
                return UNKNOWN;
            }
            if (day < 0 || day > 6 || lifted != 0 && lifted != 1) {
                return OUTSIDE;
            }
            if (tried.size() == 8) {
                return FULL;
            }
            tried.add(new int[] {kisser, weepers, day, broken, lifted});
            return tried.size();
        }

        int forget() {
            int had = tried.size();
            tried.clear();
            return had;
        }

        private static boolean wouldBe(List<int[]> terms, int[] trial) {
            for (int[] term : terms) {
                int n = term[1];
                boolean so = term[0] == 0 ? trial[0] == n : term[0] == 1 ? (trial[1] & 1 << n) != 0
                    : term[0] == 2 ? trial[2] == n : (trial[3] & 1 << n) != 0 == (term[0] == 5);
                if (!so) {
                    return false;
                }
            }
            return true;
        }

        private List<List<int[]>> ifs() {
            List<int[]> terms = new ArrayList<>();
            int[][] sorts = {{0, people}, {1, people}, {2, 7}, {5, 2}, {6, 2}};
            for (int[] sort : sorts) {
                for (int n = 0; n < sort[1]; n++) {
                    terms.add(new int[] {sort[0], n});
                }
            }
            List<List<int[]>> all = new ArrayList<>();
            for (int[] term : terms) {
                all.add(List.of(term));
            }
            for (int i = 0; i < terms.size(); i++) {
                for (int j = i + 1; j < terms.size(); j++) {
                    all.add(List.of(terms.get(i), terms.get(j)));
                }
            }
            all.removeIf(one -> {
                for (int[] trial : tried) {
                    if (wouldBe(one, trial) != (trial[4] == 1)) {
                        return true;
                    }
                }
                return false;
            });
            return all;
        }

        int mayBe(int what) {
            if (what < 0 || what > 4) {
                return OUTSIDE;
            }
            List<List<int[]>> all = ifs();
            if (what == 0) {
                return all.size();
            }
            if (all.isEmpty()) {
                return NOT;
            }
            int term = (what - 1) / 2;
            return term < all.get(0).size() ? all.get(0).get(term)[(what - 1) % 2] : NONE;
        }

        int next() {
            List<List<int[]>> all = ifs();
            int best = NONE;
            int least = Integer.MAX_VALUE;
            for (int day = 0; day < 7 && !all.isEmpty(); day++) {
                int would = 0;
                for (List<int[]> one : all) {
                    would += wouldBe(one, new int[] {NONE, 0, day, 0}) ? 1 : 0;
                }
                if (Math.max(would, all.size() - would) < least) {
                    least = Math.max(would, all.size() - would);
                    best = day;
                }
            }
            return best;
        }

        int count(int what) {
            int[] all = {people, spells.size(), bits(now.holds), bits(now.broken), bits(now.weeps), now.day, now.asked, deeds,
                past.size(), row.size(), queue.size(), tried.size(), text.length()};
            return what < 0 || what >= all.length ? OUTSIDE : all[what];
        }
    }

    /** Reads a text, told what may come next at each token. */
    private static final class Parse {
        int fault = NONE;
        int people;
        List<Spell> spells;
        int day;
        boolean[] broken;
        int lines;
        private final List<String> tokens = new ArrayList<>();
        private final List<Integer> places = new ArrayList<>();
        private Spell spell;

        Parse(Model m) {
            people = m.people;
            spells = new ArrayList<>(m.spells);
            day = m.toldDay;
            broken = m.toldBroken.clone();
            Matcher matcher = Pattern.compile("[a-z]+|[0-9]+|[^ ]", Pattern.DOTALL).matcher(m.text);
            while (matcher.find()) {
                tokens.add(matcher.group());
                places.add(matcher.start());
            }
            tokens.add("END");
            places.add(m.text.length());
            String state = "line";
            for (int i = 0; i < tokens.size(); i++) {
                state = step(state, tokens.get(i));
                if (state == null) {
                    fault = places.get(i);
                    return;
                }
            }
        }

        private int number(String token, int low, int high) {
            if (!token.matches("[0-9]")) {
                return NONE;
            }
            int n = Integer.parseInt(token);
            return n < low || n > high ? NONE : n;
        }

        /** What is awaited behind this token; null: it cannot stand there. */
        private String step(String state, String token) {
            String[] parts = state.split(" ");
            switch (parts[0]) {
                case "line": return line(token);
                case "land": return tellLand(number(token, 1, 3));
                case "day": {
                    int n = number(token, 0, 6);
                    day = n;
                    return n == NONE ? null : "endline";
                }
                case "broken": {
                    int n = number(token, 0, 1);
                    if (n != NONE) {
                        broken[n] = true;
                    }
                    return n == NONE ? null : "endline";
                }
                case "target": {
                    spell = new Spell();
                    spell.kind = Integer.parseInt(parts[1]);
                    spell.on = number(token, 0, (spell.kind == 3 ? spells.size() : people) - 1);
                    return spell.on == NONE ? null : "if";
                }
                case "if": return token.equals("if") ? "term" : null;
                case "term": return List.of("kiss", "weep", "day", "holds", "gone", "broken", "whole", "asked").contains(token)
                    ? "number " + token : null;
                case "number": return term(parts[1], token);
                case "wakes": {
                    spell.wakes = number(token, 0, spells.size());
                    return spell.wakes == NONE ? null : endSpell("endline");
                }
                case "more":
                    if (token.equals("and") && spell.terms.size() < 3) {
                        return "term";
                    }
                    return token.equals("wakes") ? "wakes" : endSpell(endLine(token));
                default: return endLine(token);
            }
        }

        private String line(String token) {
            int kind = List.of("sleep", "frog", "mute", "bind").indexOf(token);
            if (kind >= 0) {
                return spells.size() < 5 ? "target " + kind : null;
            }
            if (token.equals("bare")) {
                spells.clear();
                return "endline";
            }
            return List.of("land", "day", "broken").contains(token) ? token : null;
        }

        private String tellLand(int n) {
            people = n;
            spells.clear();
            broken = new boolean[2];
            day = 0;
            return n == NONE ? null : "endline";
        }

        private String term(String word, String token) {
            int sort = List.of("kiss", "weep", "day", "holds", "gone", "broken", "whole", "asked").indexOf(word);
            int[] last = {people - 1, people - 1, 6, spells.size(), spells.size(), 1, 1, 7};
            int n = number(token, sort == 7 ? 1 : 0, last[sort]);
            spell.terms.add(new int[] {sort, n});
            return n == NONE ? null : "more";
        }

        private String endSpell(String state) {
            spells.add(spell);
            return state;
        }

        private String endLine(String token) {
            lines++;
            if (token.equals("END")) {
                return "over";
            }
            return token.equals(";") && lines < 12 ? "line" : null;
        }
    }
}
