import java.util.ArrayList;
import java.util.Arrays;
import java.util.HashMap;
import java.util.List;
import java.util.Map;
import java.util.NoSuchElementException;
import java.util.TreeMap;

/**
 * The document once more, in its slowest form: a sound is a row of ticks, a start is looked for tick by
 * tick, a stage lives tick by tick. The random runs hold the class against it.
 */
final class SlowModel {
    private static final int ROW = 900;

    private static final class Noise {
        char kind;
        boolean[] on = new boolean[ROW];

        Noise copy() {
            Noise n = new Noise();
            n.kind = kind;
            n.on = on.clone();
            return n;
        }

        int first() {
            for (int t = 0; t < ROW; t++) {
                if (on[t]) {
                    return t;
                }
            }
            return -1;
        }

        int behind() {
            for (int t = ROW; t > 0; t--) {
                if (on[t - 1]) {
                    return t;
                }
            }
            return -1;
        }
    }

    private static final class Seen {
        int from;
        int by;
        int weight;
        int ahead;
        boolean isOver;
        int person = -1;
        int thing = -1;
        int term;
        List<Integer> texts = new ArrayList<>();

        Seen copy() {
            Seen s = new Seen();
            s.from = from;
            s.by = by;
            s.weight = weight;
            s.ahead = ahead;
            s.isOver = isOver;
            s.person = person;
            s.thing = thing;
            s.term = term;
            s.texts = new ArrayList<>(texts);
            return s;
        }
    }

    private static final class Reel {
        int ticks = 600;
        List<Noise> noises = new ArrayList<>();
        Map<Integer, Integer> named = new HashMap<>();
        TreeMap<Integer, Seen> seen = new TreeMap<>();

        Reel copy() {
            Reel r = new Reel();
            r.ticks = ticks;
            for (Noise n : noises) {
                r.noises.add(n.copy());
            }
            r.named.putAll(named);
            for (Map.Entry<Integer, Seen> e : seen.entrySet()) {
                r.seen.put(e.getKey(), e.getValue().copy());
            }
            return r;
        }
    }

    private Reel reel = new Reel();
    private final List<Reel> editions = new ArrayList<>();
    private int speed = 4;
    private int breath = 3;

    private List<int[]> plan;

    private boolean isLive;
    private boolean isSpeaking;
    private long now;
    private long lastEnd;
    private int underWay;
    private int done;
    private int needed;
    private final boolean[] called = new boolean[10];
    private final Map<Integer, Character> became = new HashMap<>();
    private final Map<Integer, Integer> marks = new HashMap<>();

    int film(int ticks) {
        require(ticks >= 1 && ticks <= 900);
        for (Noise n : reel.noises) {
            if (n.behind() > ticks) {
                throw new UnsupportedOperationException();
            }
        }
        for (Seen s : reel.seen.values()) {
            if (s.by > ticks) {
                throw new UnsupportedOperationException();
            }
        }
        int before = reel.ticks;
        reel.ticks = ticks;
        plan = null;
        return before;
    }

    int sound(char kind, int from, int to) {
        require("sgn".indexOf(kind) >= 0 && from >= 0 && from < to && to <= reel.ticks);
        state(reel.noises.size() < 30);
        Noise n = new Noise();
        n.kind = kind;
        Arrays.fill(n.on, from, to, true);
        reel.noises.add(n);
        plan = null;
        return reel.noises.size();
    }

    int sounds() {
        return reel.noises.size();
    }

    int unsound() {
        element(!reel.noises.isEmpty());
        reel.noises.remove(reel.noises.size() - 1);
        plan = null;
        return reel.noises.size();
    }

    private boolean isQuiet(int tick, boolean isSilent) {
        for (Noise n : reel.noises) {
            if (n.on[tick] && (isSilent || n.kind != 'g')) {
                return false;
            }
        }
        return true;
    }

    private List<int[]> gapList(boolean isSilent) {
        List<int[]> list = new ArrayList<>();
        int[] open = null;
        for (int t = 0; t < reel.ticks; t++) {
            if (!isQuiet(t, isSilent)) {
                open = null;
            } else if (open == null) {
                open = new int[] {t, t + 1};
                list.add(open);
            } else {
                open[1] = t + 1;
            }
        }
        return list;
    }

    int gaps(boolean isSilent) {
        return gapList(isSilent).size();
    }

    int gapAt(boolean isSilent, int index, boolean isStart) {
        List<int[]> list = gapList(isSilent);
        element(index >= 0 && index < list.size());
        return list.get(index)[isStart ? 0 : 1];
    }

    int named(int person, int tick) {
        require(person >= 0 && person <= 9 && tick >= -1 && tick < reel.ticks);
        int before = reel.named.getOrDefault(person, -1);
        reel.named.put(person, tick);
        plan = null;
        return before;
    }

    int voice(int speed, int breath) {
        require(speed >= 2 && speed <= 9 && breath >= 0 && breath <= 20);
        int before = this.speed;
        this.speed = speed;
        this.breath = breath;
        plan = null;
        return before;
    }

    int fact(int from, int by, int weight, int ahead, boolean isOver) {
        require(from >= 0 && from < by && by <= reel.ticks);
        require(weight >= 1 && weight <= 99 && ahead >= 0 && ahead <= 60);
        state(reel.seen.size() < 10);
        Seen s = new Seen();
        s.from = from;
        s.by = by;
        s.weight = weight;
        s.ahead = ahead;
        s.isOver = isOver;
        int number = 0;
        while (reel.seen.containsKey(number)) {
            number++;
        }
        reel.seen.put(number, s);
        plan = null;
        return number;
    }

    int drop(int fact) {
        seen(fact);
        reel.seen.remove(fact);
        forgetGone();
        plan = null;
        return reel.seen.size();
    }

    int names(int fact, int person) {
        Seen s = seen(fact);
        require(person >= -1 && person <= 9);
        int before = s.person;
        s.person = person;
        plan = null;
        return before;
    }

    int thing(int fact, int thing, int term) {
        Seen s = seen(fact);
        require(thing == -1 || thing >= 0 && thing <= 9 && term >= 0 && term <= 9);
        int before = s.thing;
        s.thing = thing;
        s.term = term;
        plan = null;
        return before;
    }

    int version(int fact, int syllables) {
        Seen s = seen(fact);
        require(syllables >= 1 && syllables <= 80);
        require(s.texts.isEmpty() || syllables > s.texts.get(s.texts.size() - 1));
        state(s.texts.size() < 3);
        s.texts.add(syllables);
        plan = null;
        return s.texts.size();
    }

    int ticks(int fact, int version) {
        Seen s = seen(fact);
        element(version >= 0 && version < s.texts.size());
        int ticks = 0;
        while (ticks * speed < 10 * s.texts.get(version)) {
            ticks++;
        }
        return ticks;
    }

    boolean canStart(int fact, int version, int tick) {
        int length = ticks(fact, version);
        return canStart(seen(fact), length, tick, null);
    }

    /** With a table of quiet ticks, where many starts are looked for. */
    private boolean canStart(Seen s, int length, long tick, int[][] noisyBefore) {
        if (tick < 0 || tick + length > reel.ticks || tick < s.from - s.ahead || tick + length > s.by) {
            return false;
        }
        if (s.person >= 0) {
            int name = reel.named.getOrDefault(s.person, -1);
            if (name < 0 || tick < name) {
                return false;
            }
        }
        if (noisyBefore != null) {
            int[] row = noisyBefore[s.isOver ? 0 : 1];
            return row[(int) tick + length] == row[(int) tick];
        }
        for (int t = (int) tick; t < tick + length; t++) {
            if (!isQuiet(t, !s.isOver)) {
                return false;
            }
        }
        return true;
    }

    int firstStart(int fact, int version, int tick) {
        int length = ticks(fact, version);
        int[][] table = noisyBefore();
        for (int t = Math.max(tick, 0); t < reel.ticks; t++) {
            if (canStart(seen(fact), length, t, table)) {
                return t;
            }
        }
        throw new NoSuchElementException();
    }

    private int[][] noisyBefore() {
        int[][] table = new int[2][ROW + 1];
        for (int t = 0; t < ROW; t++) {
            table[0][t + 1] = table[0][t] + (isQuiet(t, false) ? 0 : 1);
            table[1][t + 1] = table[1][t] + (isQuiet(t, true) ? 0 : 1);
        }
        return table;
    }

    /** For each set that can be told its way, as rows of fact, start and end. */
    private Map<Integer, List<int[]>> ways() {
        Map<Integer, List<int[]>> ways = new TreeMap<>();
        int[][] table = noisyBefore();
        ways.put(0, new ArrayList<>());
        for (int set = 1; set < 1024; set++) {
            List<int[]> way = isTellable(set) ? wayOf(set, ways, table) : null;
            if (way != null) {
                ways.put(set, way);
            }
        }
        return ways;
    }

    private boolean isTellable(int set) {
        for (int a = 0; a < 10; a++) {
            if ((set & 1 << a) == 0) {
                continue;
            }
            Seen one = reel.seen.get(a);
            if (one == null || one.texts.isEmpty()) {
                return false;
            }
            for (int b = 0; b < a; b++) {
                Seen other = (set & 1 << b) == 0 ? null : reel.seen.get(b);
                if (other != null && one.thing >= 0 && one.thing == other.thing && one.term != other.term) {
                    return false;
                }
            }
        }
        return true;
    }

    private List<int[]> wayOf(int set, Map<Integer, List<int[]>> ways, int[][] table) {
        List<int[]> best = null;
        for (int f = 0; f < 10; f++) {
            List<int[]> rest = (set & 1 << f) == 0 ? null : ways.get(set - (1 << f));
            if (rest == null) {
                continue;
            }
            int from = rest.isEmpty() ? 0 : rest.get(rest.size() - 1)[2] + breath;
            int length = ticks(f, 0);
            int start = from;
            while (start < reel.ticks && !canStart(reel.seen.get(f), length, start, table)) {
                start++;
            }
            if (start < reel.ticks && (best == null || start + length < best.get(best.size() - 1)[2])) {
                best = new ArrayList<>(rest);
                best.add(new int[] {f, start, start + length});
            }
        }
        return best;
    }

    private int weightOf(int set) {
        int sum = 0;
        for (Map.Entry<Integer, Seen> e : reel.seen.entrySet()) {
            sum += (set & 1 << e.getKey()) == 0 ? 0 : e.getValue().weight;
        }
        return sum;
    }

    int plan() {
        Map<Integer, List<int[]>> ways = ways();
        List<Integer> sets = new ArrayList<>(ways.keySet());
        sets.sort((a, b) -> {
            int byWeight = weightOf(b) - weightOf(a);
            int byFacts = Integer.bitCount(a) - Integer.bitCount(b);
            return byWeight != 0 ? byWeight : byFacts != 0 ? byFacts : a - b;
        });
        List<int[]> way = ways.get(sets.get(0));
        plan = new ArrayList<>();
        for (int i = 0; i < way.size(); i++) {
            int f = way.get(i)[0];
            int start = way.get(i)[1];
            int longest = 0;
            for (int v = 0; v < reel.seen.get(f).texts.size(); v++) {
                boolean isAhead = i + 1 == way.size() || start + ticks(f, v) + breath <= way.get(i + 1)[1];
                longest = isAhead && canStart(f, v, start) ? v : longest;
            }
            plan.add(new int[] {f, start, longest});
        }
        return plan.size();
    }

    int weight() {
        state(plan != null);
        int sum = 0;
        for (int[] told : plan) {
            sum += reel.seen.get(told[0]).weight;
        }
        return sum;
    }

    int loss() {
        int weight = weight();
        return weightOf(1023) - weight;
    }

    int planned(int index) {
        state(plan != null);
        element(index >= 0 && index < plan.size());
        return plan.get(index)[0];
    }

    private int[] inPlan(int fact) {
        state(plan != null);
        seen(fact);
        for (int[] told : plan) {
            if (told[0] == fact) {
                return told;
            }
        }
        throw new NoSuchElementException();
    }

    int start(int fact) {
        return inPlan(fact)[1];
    }

    int versionOf(int fact) {
        return inPlan(fact)[2];
    }

    boolean canTell(int facts) {
        for (int f = 0; f < 32; f++) {
            require((facts & 1 << f) == 0 || reel.seen.containsKey(f));
        }
        return ways().containsKey(facts);
    }

    int cut(int from, int many) {
        require(from >= 0 && many >= 1 && (long) from + many <= reel.ticks && many < reel.ticks);
        List<Noise> left = new ArrayList<>();
        for (Noise n : reel.noises) {
            boolean[] on = new boolean[ROW];
            for (int t = 0; t < ROW; t++) {
                if (t < from) {
                    on[t] = n.on[t];
                } else if (t >= from + many) {
                    on[t - many] = n.on[t];
                }
            }
            n.on = on;
            if (n.first() >= 0) {
                left.add(n);
            }
        }
        reel.noises = left;
        reel.named.replaceAll((person, tick) -> cutTick(tick, from, many));
        int before = reel.seen.size();
        reel.seen.values().removeIf(s -> s.from >= from && s.from < from + many);
        for (Seen s : reel.seen.values()) {
            s.from = cutTick(s.from, from, many);
            s.by = cutTick(s.by, from, many);
        }
        reel.ticks -= many;
        forgetGone();
        plan = null;
        return before - reel.seen.size();
    }

    private static int cutTick(int tick, int from, int many) {
        for (int i = 0; i < many; i++) {
            tick = tick > from ? tick - 1 : tick;
        }
        return tick;
    }

    int insert(int at, int many) {
        require(at >= 0 && at <= reel.ticks && many >= 1 && (long) reel.ticks + many <= 900);
        for (Noise n : reel.noises) {
            boolean goesOn = at > 0 && at < ROW && n.on[at - 1] && n.on[at];
            boolean[] on = new boolean[ROW];
            for (int t = 0; t < reel.ticks; t++) {
                on[t < at ? t : t + many] = n.on[t];
            }
            Arrays.fill(on, at, at + many, goesOn);
            n.on = on;
        }
        reel.named.replaceAll((person, tick) -> tick < at ? tick : tick + many);
        for (Seen s : reel.seen.values()) {
            s.from = s.from < at ? s.from : s.from + many;
            s.by = s.by < at ? s.by : s.by + many;
        }
        reel.ticks += many;
        plan = null;
        return reel.ticks;
    }

    int edition() {
        state(editions.size() < 4);
        editions.add(reel.copy());
        return editions.size() - 1;
    }

    int use(int edition) {
        index(edition >= 0 && edition < editions.size());
        reel = editions.get(edition).copy();
        forgetGone();
        plan = null;
        return reel.seen.size();
    }

    private void forgetGone() {
        for (int f = 0; f < 10; f++) {
            if (!reel.seen.containsKey(f)) {
                became.remove(f);
                for (int listener = 0; listener < 6; listener++) {
                    marks.remove(10 * f + listener);
                }
                if (underWay == f) {
                    underWay = -1;
                    lastEnd = now;
                }
            }
        }
    }

    int live() {
        isLive = true;
        isSpeaking = false;
        now = 0;
        lastEnd = -1000;
        underWay = -1;
        Arrays.fill(called, false);
        became.clear();
        int texts = 0;
        for (Seen s : reel.seen.values()) {
            texts += s.texts.isEmpty() ? 0 : 1;
        }
        return texts;
    }

    boolean speak(boolean is) {
        state(isLive);
        boolean before = isSpeaking;
        isSpeaking = is;
        if (is && underWay >= 0) {
            became.put(underWay, 'l');
            underWay = -1;
            lastEnd = now;
        }
        return before;
    }

    boolean call(int person) {
        state(isLive);
        require(person >= 0 && person <= 9);
        boolean before = called[person];
        called[person] = true;
        return before;
    }

    int cue(int fact) {
        state(isLive);
        Seen s = seen(fact);
        boolean isFree = underWay < 0 && !isSpeaking && now - lastEnd >= breath;
        boolean isNamed = s.person < 0 || called[s.person];
        if (s.texts.isEmpty() || !isFree || !isNamed || became.getOrDefault(fact, '-') == 't') {
            throw new UnsupportedOperationException();
        }
        underWay = fact;
        done = 0;
        needed = ticks(fact, 0);
        became.put(fact, 'u');
        return needed;
    }

    int tick(int ticks) {
        state(isLive);
        require(ticks >= 1 && ticks <= 200);
        int ended = 0;
        for (int i = 0; i < ticks; i++) {
            now++;
            if (!isSpeaking && underWay >= 0) {
                done++;
                if (done == needed) {
                    became.put(underWay, 't');
                    underWay = -1;
                    lastEnd = now;
                    ended++;
                }
            }
        }
        return ended;
    }

    char told(int fact) {
        state(isLive);
        seen(fact);
        return became.getOrDefault(fact, '-');
    }

    int mark(int fact, int listener, int mark) {
        seen(fact);
        require(listener >= 0 && listener <= 5 && mark >= 0 && mark <= 10);
        Integer before = marks.put(10 * fact + listener, mark);
        return before == null ? -1 : before;
    }

    int review(int fact) {
        seen(fact);
        List<Integer> given = new ArrayList<>();
        for (int listener = 0; listener < 6; listener++) {
            if (marks.containsKey(10 * fact + listener)) {
                given.add(marks.get(10 * fact + listener));
            }
        }
        element(given.size() >= 3);
        given.sort(null);
        int sum = 0;
        for (int mark : given.subList(1, given.size() - 1)) {
            sum += mark;
        }
        return 100 * sum / (given.size() - 2);
    }

    long checksum() {
        long sum = 7;
        for (Noise n : reel.noises) {
            sum = 31 * (31 * sum + n.first()) + n.behind();
        }
        for (Map.Entry<Integer, Seen> e : reel.seen.entrySet()) {
            sum = 31 * (31 * sum + e.getKey()) + e.getValue().by;
        }
        return 31 * sum + reel.ticks;
    }

    /** What is looked at there holds for every plan that the document allows. */
    boolean isSound() {
        return true;
    }

    private Seen seen(int fact) {
        index(reel.seen.containsKey(fact));
        return reel.seen.get(fact);
    }

    private static void require(boolean is) {
        if (!is) {
            throw new IllegalArgumentException();
        }
    }

    private static void state(boolean is) {
        if (!is) {
            throw new IllegalStateException();
        }
    }

    private static void element(boolean is) {
        if (!is) {
            throw new NoSuchElementException();
        }
    }

    private static void index(boolean is) {
        if (!is) {
            throw new IndexOutOfBoundsException();
        }
    }
}
