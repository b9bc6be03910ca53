import java.util.ArrayList;
import java.util.Arrays;
import java.util.NoSuchElementException;

/**
 * Words for those who do not see a film. What each call of the face does is promised, by numbers,
 * in the project's document; comments here tell only what the document leaves to be reasoned out.
 */
public final class SaywhatSeen {
    private static final int NONE = -1;
    private static final int NEVER = Integer.MAX_VALUE;
    private static final int FIRST_TICKS = 600;
    private static final int MOST_TICKS = 900;
    private static final int MOST_SOUNDS = 30;
    private static final int PEOPLE = 10;
    private static final int THINGS = 10;
    private static final int TERMS = 10;
    private static final int FIRST_SPEED = 4;
    private static final int LEAST_SPEED = 2;
    private static final int MOST_SPEED = 9;
    private static final int FIRST_BREATH = 3;
    private static final int MOST_BREATH = 20;
    private static final int MOST_FACTS = 10;
    private static final int SETS = 1 << MOST_FACTS;
    private static final int MOST_WEIGHT = 99;
    private static final int MOST_AHEAD = 60;
    private static final int MOST_VERSIONS = 3;
    private static final int MOST_SYLLABLES = 80;
    private static final int MOST_ORDERED = 5;
    private static final int MOST_EDITIONS = 4;
    private static final int MOST_LIVE_TICKS = 200;
    private static final int LISTENERS = 6;
    private static final int MOST_MARK = 10;
    private static final int LEAST_MARKS = 3;

    private final Film film = new Film();
    private final Film[] editions = new Film[MOST_EDITIONS];
    private int editionCount;
    private int speed = FIRST_SPEED;
    private int breath = FIRST_BREATH;
    private final Ways ways = new Ways();
    private final Plan plan = new Plan();
    private final Stage stage = new Stage();
    private final Marks marks = new Marks();

    public SaywhatSeen() {
    }

    // ---- the film.

    public int film(int ticks) throws IllegalArgumentException, UnsupportedOperationException {
        if (ticks < 1 || ticks > MOST_TICKS) {
            throw new IllegalArgumentException("a film has 1 to 900 ticks");
        }
        if (film.reachesBeyond(ticks)) {
            throw new UnsupportedOperationException("a sound or a fact would go beyond the film");
        }
        int before = film.ticks;
        film.ticks = ticks;
        forgetPlan();
        return before;
    }

    public int sound(char kind, int from, int to) throws IllegalArgumentException, IllegalStateException {
        if (kind != 's' && kind != 'g' && kind != 'n') {
            throw new IllegalArgumentException("no such kind of sound");
        }
        if (from < 0 || to <= from || to > film.ticks) {
            throw new IllegalArgumentException("not within the film");
        }
        if (film.sounds.size() >= MOST_SOUNDS) {
            throw new IllegalStateException("there are 30 sounds");
        }
        film.sounds.add(new Sound(kind, from, to));
        forgetPlan();
        return film.sounds.size();
    }

    public int sounds() {
        return film.sounds.size();
    }

    public int unsound() throws NoSuchElementException {
        if (film.sounds.isEmpty()) {
            throw new NoSuchElementException("no sound");
        }
        film.sounds.remove(film.sounds.size() - 1);
        forgetPlan();
        return film.sounds.size();
    }

    public int gaps(boolean isSilent) {
        return film.countGaps(isSilent);
    }

    public int gapAt(boolean isSilent, int index, boolean isStart) throws NoSuchElementException {
        int first = index < 0 ? NONE : film.gapStart(isSilent, index);
        if (first == NONE) {
            throw new NoSuchElementException("no such gap");
        }
        return isStart ? first : film.gapEnd(isSilent, first);
    }

    public int named(int person, int tick) throws IllegalArgumentException {
        if (person < 0 || person >= film.namedAt.length) {
            throw new IllegalArgumentException("no such person");
        }
        if (tick != NONE && (tick < 0 || tick >= film.ticks)) {
            throw new IllegalArgumentException("no such tick");
        }
        int before = film.namedAt[person];
        film.namedAt[person] = tick;
        forgetPlan();
        return before;
    }

    public int voice(int speed, int breath) throws IllegalArgumentException {
        if (speed < LEAST_SPEED || speed > MOST_SPEED || breath < 0 || breath > MOST_BREATH) {
            throw new IllegalArgumentException("out of range");
        }
        int before = this.speed;
        this.speed = speed;
        this.breath = breath;
        forgetPlan();
        return before;
    }

    // ---- facts.

    public int fact(int from, int by, int weight, int ahead, boolean isOver)
            throws IllegalArgumentException, IllegalStateException {
        if (weight < 1 || weight > MOST_WEIGHT || ahead < 0 || ahead > MOST_AHEAD) {
            throw new IllegalArgumentException("out of range");
        }
        if (from < 0 || by <= from || by > film.ticks) {
            throw new IllegalArgumentException("not within the film");
        }
        int number = film.freeNumber();
        if (number < 0 || number >= film.facts.length) {
            throw new IllegalStateException("there are 10 facts");
        }
        film.facts[number] = new Fact(from, by, weight, ahead, isOver);
        forgetPlan();
        return number;
    }

    public int drop(int fact) throws IndexOutOfBoundsException {
        if (film.find(fact) == null) {
            throw new IndexOutOfBoundsException("no such fact");
        }
        film.forget(fact);
        forgetGoneFacts();
        forgetPlan();
        return film.countFacts();
    }

    public int names(int fact, int person) throws IndexOutOfBoundsException, IllegalArgumentException {
        Fact found = existing(fact);
        if (person < NONE || person >= PEOPLE) {
            throw new IllegalArgumentException("no such person");
        }
        int before = found.person;
        found.person = person;
        forgetPlan();
        return before;
    }

    public int thing(int fact, int thing, int term) throws IndexOutOfBoundsException, IllegalArgumentException {
        Fact found = existing(fact);
        if (thing < NONE || thing >= THINGS) {
            throw new IllegalArgumentException("no such thing");
        }
        // Without a thing the term has no meaning, so then no number is out of its range.
        if (thing != NONE && (term < 0 || term >= TERMS)) {
            throw new IllegalArgumentException("no such term");
        }
        int before = found.thing;
        found.thing = thing;
        found.term = term;
        forgetPlan();
        return before;
    }

    public int version(int fact, int syllables)
            throws IndexOutOfBoundsException, IllegalArgumentException, IllegalStateException {
        Fact found = existing(fact);
        if (syllables < 1 || syllables > MOST_SYLLABLES || syllables <= found.mostSyllables()) {
            throw new IllegalArgumentException("out of range, or not longer than the version before");
        }
        if (found.versions >= MOST_VERSIONS) {
            throw new IllegalStateException("there are 3 versions");
        }
        found.addVersion(syllables);
        forgetPlan();
        return found.versions;
    }

    public int ticks(int fact, int version) throws IndexOutOfBoundsException, NoSuchElementException {
        return existingLength(existing(fact), version);
    }

    public boolean canStart(int fact, int version, int tick)
            throws IndexOutOfBoundsException, NoSuchElementException {
        Fact found = existing(fact);
        return film.canPlace(found, existingLength(found, version), tick);
    }

    public int firstStart(int fact, int version, int tick)
            throws IndexOutOfBoundsException, NoSuchElementException {
        Fact found = existing(fact);
        int place = film.placeFrom(found, existingLength(found, version), tick);
        if (place == NONE) {
            throw new NoSuchElementException("no such tick");
        }
        return place;
    }

    // ---- the plan.

    public int plan() {
        layWays();
        plan.make(film, ways, speed, breath);
        return plan.count;
    }

    public int weight() throws IllegalStateException {
        checkPlan();
        return plan.weight;
    }

    public int loss() throws IllegalStateException {
        checkPlan();
        return film.weightOfFacts() - plan.weight;
    }

    public int planned(int index) throws IllegalStateException, NoSuchElementException {
        checkPlan();
        if (index < 0 || index >= plan.count || index >= plan.facts.length) {
            throw new NoSuchElementException("no such fact in the plan");
        }
        return plan.facts[index];
    }

    public int start(int fact) throws IllegalStateException, IndexOutOfBoundsException, NoSuchElementException {
        int place = placeInPlan(fact);
        return place >= 0 && place < plan.starts.length ? plan.starts[place] : NONE;
    }

    public int versionOf(int fact)
            throws IllegalStateException, IndexOutOfBoundsException, NoSuchElementException {
        int place = placeInPlan(fact);
        return place >= 0 && place < plan.versions.length ? plan.versions[place] : NONE;
    }

    public boolean canTell(int facts) throws IllegalArgumentException {
        if ((facts & ~film.factBits()) != 0) {
            throw new IllegalArgumentException("others are among them");
        }
        layWays();
        return ways.endOf(facts) != NONE;
    }

    // ---- recuts and editions.

    public int cut(int from, int many) throws IllegalArgumentException {
        if (from < 0 || many < 1 || from > film.ticks - many || many >= film.ticks) {
            throw new IllegalArgumentException("not within the film, or none, or all");
        }
        int before = film.countFacts();
        film.takeOut(from, many);
        forgetGoneFacts();
        forgetPlan();
        return before - film.countFacts();
    }

    public int insert(int at, int many) throws IllegalArgumentException {
        if (at < 0 || at > film.ticks || many < 1 || many > MOST_TICKS - film.ticks) {
            throw new IllegalArgumentException("no such tick, or none inserted, or too many");
        }
        film.putIn(at, many);
        forgetPlan();
        return film.ticks;
    }

    public int edition() throws IllegalStateException {
        int number = editionCount;
        if (number < 0 || number >= editions.length) {
            throw new IllegalStateException("there are 4 editions");
        }
        Film kept = new Film();
        kept.becomeLike(film);
        editions[number] = kept;
        editionCount = number + 1;
        return number;
    }

    public int use(int edition) throws IndexOutOfBoundsException {
        Film kept = edition < 0 || edition >= editions.length ? null : editions[edition];
        if (kept == null) {
            throw new IndexOutOfBoundsException("no such edition");
        }
        film.becomeLike(kept);
        forgetGoneFacts();
        forgetPlan();
        return film.countFacts();
    }

    // ---- live.

    public int live() {
        stage.begin();
        return film.countTexts();
    }

    public boolean speak(boolean is) throws IllegalStateException {
        checkStage();
        boolean before = stage.isSpeaking;
        stage.hear(is);
        return before;
    }

    public boolean call(int person) throws IllegalStateException, IllegalArgumentException {
        checkStage();
        if (person < 0 || person >= stage.isCalled.length) {
            throw new IllegalArgumentException("no such person");
        }
        boolean before = stage.isCalled[person];
        stage.isCalled[person] = true;
        return before;
    }

    public int cue(int fact) throws IllegalStateException, IndexOutOfBoundsException, UnsupportedOperationException {
        checkStage();
        Fact found = existing(fact);
        if (!found.hasVersion(0) || !stage.canBegin(fact, found.person, breath)) {
            throw new UnsupportedOperationException("no text, or it cannot start");
        }
        int length = found.length(0, speed);
        stage.startText(fact, length);
        return length;
    }

    public int tick(int ticks) throws IllegalStateException, IllegalArgumentException {
        checkStage();
        if (ticks < 1 || ticks > MOST_LIVE_TICKS) {
            throw new IllegalArgumentException("1 to 200 ticks pass");
        }
        return stage.pass(ticks);
    }

    public char told(int fact) throws IllegalStateException, IndexOutOfBoundsException {
        checkStage();
        existing(fact);
        return stage.becameOf(fact);
    }

    // ---- marks and figures.

    public int mark(int fact, int listener, int mark) throws IndexOutOfBoundsException, IllegalArgumentException {
        existing(fact);
        if (listener < 0 || listener >= LISTENERS || mark < 0 || mark > MOST_MARK) {
            throw new IllegalArgumentException("out of range");
        }
        return marks.give(fact, listener, mark);
    }

    public int review(int fact) throws IndexOutOfBoundsException, NoSuchElementException {
        existing(fact);
        int review = marks.meanInside(fact);
        if (review == NONE) {
            throw new NoSuchElementException("fewer than 3 marks");
        }
        return review;
    }

    public long checksum() {
        long sum = 7;
        for (int i = 0; i < film.sounds.size(); i++) {
            Sound sound = film.sounds.get(i);
            sum = 31 * sum + sound.from;
            sum = 31 * sum + sound.to;
        }
        for (int number = 0; number < MOST_FACTS; number++) {
            Fact fact = film.find(number);
            if (fact != null) {
                sum = 31 * sum + number;
                sum = 31 * sum + fact.by;
            }
        }
        return 31 * sum + film.ticks;
    }

    public boolean isSound() {
        return film.areGapsClean(false) && film.areGapsClean(true)
                && (!plan.isMade || plan.isPlaceable(film, speed, breath) && !ways.hasMoreThan(plan.weight));
    }

    // ---- what several calls need.

    private Fact existing(int number) throws IndexOutOfBoundsException {
        Fact fact = film.find(number);
        if (fact == null) {
            throw new IndexOutOfBoundsException("no such fact");
        }
        return fact;
    }

    private int existingLength(Fact fact, int version) throws NoSuchElementException {
        if (fact == null || !fact.hasVersion(version)) {
            throw new NoSuchElementException("no such version");
        }
        return fact.length(version, speed);
    }

    private void checkPlan() throws IllegalStateException {
        if (!plan.isMade) {
            throw new IllegalStateException("there is no plan");
        }
    }

    private int placeInPlan(int fact) throws IllegalStateException, IndexOutOfBoundsException, NoSuchElementException {
        checkPlan();
        existing(fact);
        int place = plan.placeOf(fact);
        if (place == NONE) {
            throw new NoSuchElementException("not in the plan");
        }
        return place;
    }

    private void checkStage() throws IllegalStateException {
        if (!stage.isLive) {
            throw new IllegalStateException("no stage is live");
        }
    }

    /** Every call that tells something of the film, of facts or of the voice ends here. */
    private void forgetPlan() {
        plan.isMade = false;
        ways.isLaid = false;
    }

    private void layWays() {
        if (!ways.isLaid) {
            ways.lay(film, speed, breath);
        }
    }

    private void forgetGoneFacts() {
        for (int number = 0; number < MOST_FACTS; number++) {
            if (film.find(number) == null) {
                stage.forget(number);
                marks.forget(number);
            }
        }
    }

    /** A sound never changes, so a film and its editions may share it. */
    private static final class Sound {
        final char kind;
        final int from;
        final int to;

        Sound(char kind, int from, int to) {
            this.kind = kind;
            this.from = from;
            this.to = to;
        }

        /** Whether it ends a gap: music does so only if the gap is to be silent. */
        boolean isHeard(boolean isSilent) {
            return kind != 'g' || isSilent;
        }

        boolean isWithin(int start, int end) {
            return from < end && to > start;
        }
    }

    private static final class Fact {
        int seenAt;
        int by;
        final int weight;
        final int ahead;
        final boolean isOver;
        int person = NONE;
        int thing = NONE;
        int term;
        int versions;
        final int[] syllables = new int[MOST_VERSIONS];

        Fact(int seenAt, int by, int weight, int ahead, boolean isOver) {
            this.seenAt = seenAt;
            this.by = by;
            this.weight = weight;
            this.ahead = ahead;
            this.isOver = isOver;
        }

        Fact twin() {
            Fact twin = new Fact(seenAt, by, weight, ahead, isOver);
            twin.person = person;
            twin.thing = thing;
            twin.term = term;
            for (int i = 0; i < syllables.length && i < versions; i++) {
                twin.addVersion(syllables[i]);
            }
            return twin;
        }

        boolean hasVersion(int version) {
            return version >= 0 && version < versions && version < syllables.length;
        }

        int mostSyllables() {
            return hasVersion(versions - 1) ? syllables[versions - 1] : 0;
        }

        void addVersion(int many) {
            if (versions >= 0 && versions < syllables.length) {
                syllables[versions] = many;
                versions++;
            }
        }

        int length(int version, int speed) {
            if (!hasVersion(version) || speed < 1) {
                return 0;
            }
            return (10 * syllables[version] + speed - 1) / speed;
        }

        boolean isUnlike(Fact other) {
            return other != null && thing != NONE && thing == other.thing && term != other.term;
        }
    }

    /** All that an edition keeps. */
    private static final class Film {
        int ticks = FIRST_TICKS;
        final ArrayList<Sound> sounds = new ArrayList<Sound>();
        final int[] namedAt = new int[PEOPLE];
        final Fact[] facts = new Fact[MOST_FACTS];

        Film() {
            Arrays.fill(namedAt, NONE);
        }

        void becomeLike(Film other) {
            if (other == null) {
                return;
            }
            ticks = other.ticks;
            sounds.clear();
            for (int i = 0; i < other.sounds.size(); i++) {
                sounds.add(other.sounds.get(i));
            }
            for (int i = 0; i < namedAt.length && i < other.namedAt.length; i++) {
                namedAt[i] = other.namedAt[i];
            }
            for (int i = 0; i < facts.length; i++) {
                Fact fact = other.find(i);
                facts[i] = fact == null ? null : fact.twin();
            }
        }

        boolean reachesBeyond(int end) {
            for (int i = 0; i < sounds.size(); i++) {
                if (sounds.get(i).to > end) {
                    return true;
                }
            }
            for (int i = 0; i < facts.length; i++) {
                Fact fact = facts[i];
                if (fact != null && fact.by > end) {
                    return true;
                }
            }
            return false;
        }

        // -- facts by number

        Fact find(int number) {
            return number >= 0 && number < facts.length ? facts[number] : null;
        }

        void forget(int number) {
            if (number >= 0 && number < facts.length) {
                facts[number] = null;
            }
        }

        int freeNumber() {
            for (int i = 0; i < facts.length; i++) {
                if (facts[i] == null) {
                    return i;
                }
            }
            return NONE;
        }

        int factBits() {
            int bits = 0;
            for (int i = 0; i < facts.length; i++) {
                if (facts[i] != null) {
                    bits |= 1 << i;
                }
            }
            return bits;
        }

        int countFacts() {
            return Integer.bitCount(factBits());
        }

        int countTexts() {
            int count = 0;
            for (int i = 0; i < facts.length; i++) {
                Fact fact = facts[i];
                if (fact != null && fact.hasVersion(0)) {
                    count++;
                }
            }
            return count;
        }

        int weightOfFacts() {
            int sum = 0;
            for (int i = 0; i < facts.length; i++) {
                Fact fact = facts[i];
                if (fact != null) {
                    sum += fact.weight;
                }
            }
            return sum;
        }

        // -- sounds and gaps

        boolean isNoisy(int start, int end, boolean isSilent) {
            for (int i = 0; i < sounds.size(); i++) {
                Sound sound = sounds.get(i);
                if (sound.isHeard(isSilent) && sound.isWithin(start, end)) {
                    return true;
                }
            }
            return false;
        }

        /**
         * The first tick from one on with so many quiet ticks from it. Each pass but the last goes
         * behind one sound at least, for good: so there are no more passes than sounds, and one.
         */
        int quietFrom(int tick, int length, boolean isSilent) {
            int start = tick;
            for (int pass = 0; pass <= MOST_SOUNDS; pass++) {
                int before = start;
                for (int i = 0; i < sounds.size(); i++) {
                    Sound sound = sounds.get(i);
                    if (sound.isHeard(isSilent) && sound.isWithin(start, start + length)) {
                        start = sound.to;
                    }
                }
                if (start == before) {
                    return start;
                }
            }
            return start;
        }

        int gapEnd(boolean isSilent, int start) {
            int end = ticks;
            for (int i = 0; i < sounds.size(); i++) {
                Sound sound = sounds.get(i);
                if (sound.isHeard(isSilent) && sound.from >= start) {
                    end = Math.min(end, sound.from);
                }
            }
            return end;
        }

        /** The first tick of a gap, by its index from 0. */
        int gapStart(boolean isSilent, int index) {
            int start = quietFrom(0, 1, isSilent);
            for (int i = 0; i < index && start < ticks; i++) {
                start = quietFrom(gapEnd(isSilent, start), 1, isSilent);
            }
            return start < ticks ? start : NONE;
        }

        int countGaps(boolean isSilent) {
            int count = 0;
            int start = quietFrom(0, 1, isSilent);
            while (count < MOST_TICKS && start < ticks) {
                count++;
                start = quietFrom(gapEnd(isSilent, start), 1, isSilent);
            }
            return count;
        }

        boolean areGapsClean(boolean isSilent) {
            int start = quietFrom(0, 1, isSilent);
            for (int i = 0; i < MOST_TICKS && start < ticks; i++) {
                int end = gapEnd(isSilent, start);
                if (isNoisy(start, end, isSilent)) {
                    return false;
                }
                start = quietFrom(end, 1, isSilent);
            }
            return true;
        }

        // -- placing

        /** Sounds and the end aside. */
        int earliestStart(Fact fact) {
            if (fact == null) {
                return NEVER;
            }
            int earliest = Math.max(0, fact.seenAt - fact.ahead);
            if (fact.person < 0 || fact.person >= namedAt.length) {
                return earliest;
            }
            int name = namedAt[fact.person];
            return name == NONE ? NEVER : Math.max(earliest, name);
        }

        /** Any tick may be asked for, so it is compared before it is added to. */
        boolean canPlace(Fact fact, int length, int tick) {
            return fact != null && tick >= earliestStart(fact) && tick <= ticks - length
                    && tick <= fact.by - length && !isNoisy(tick, tick + length, !fact.isOver);
        }

        int placeFrom(Fact fact, int length, int tick) {
            if (fact == null) {
                return NONE;
            }
            int earliest = Math.max(tick, earliestStart(fact));
            if (earliest > ticks) {
                return NONE;
            }
            int start = quietFrom(earliest, length, !fact.isOver);
            return start + length <= ticks && start + length <= fact.by ? start : NONE;
        }

        // -- recuts

        void takeOut(int from, int many) {
            for (int i = sounds.size() - 1; i >= 0; i--) {
                Sound sound = sounds.get(i);
                int start = afterCut(sound.from, from, many);
                int end = afterCut(sound.to, from, many);
                if (start >= end) {
                    sounds.remove(i);
                } else {
                    sounds.set(i, new Sound(sound.kind, start, end));
                }
            }
            for (int i = 0; i < namedAt.length; i++) {
                namedAt[i] = afterCut(namedAt[i], from, many);
            }
            for (int i = 0; i < facts.length; i++) {
                Fact fact = facts[i];
                if (fact != null && fact.seenAt >= from && fact.seenAt < from + many) {
                    facts[i] = null;
                } else if (fact != null) {
                    fact.seenAt = afterCut(fact.seenAt, from, many);
                    fact.by = afterCut(fact.by, from, many);
                }
            }
            ticks -= many;
        }

        /** Where a tick is then; never stays never, as it is less than any tick. */
        private static int afterCut(int tick, int from, int many) {
            return tick < from ? tick : Math.max(from, tick - many);
        }

        void putIn(int at, int many) {
            for (int i = 0; i < sounds.size(); i++) {
                Sound sound = sounds.get(i);
                int start = sound.from >= at ? sound.from + many : sound.from;
                int end = sound.to > at ? sound.to + many : sound.to;
                sounds.set(i, new Sound(sound.kind, start, end));
            }
            for (int i = 0; i < namedAt.length; i++) {
                namedAt[i] = namedAt[i] >= at ? namedAt[i] + many : namedAt[i];
            }
            for (int i = 0; i < facts.length; i++) {
                Fact fact = facts[i];
                if (fact != null) {
                    fact.seenAt = fact.seenAt >= at ? fact.seenAt + many : fact.seenAt;
                    fact.by = fact.by >= at ? fact.by + many : fact.by;
                }
            }
            ticks += many;
        }
    }

    /** The ways of all sets of facts, a set being its facts as bits; laid anew after a change. */
    private static final class Ways {
        boolean isLaid;
        private int breath;
        private int texted;
        private int heaviest;
        private final int[] weights = new int[MOST_FACTS];
        private final int[] lengths = new int[MOST_FACTS];
        private final int[] unlike = new int[MOST_FACTS];
        private final int[] quietEnds = new int[MOST_TICKS + 1];
        private final int[] silentEnds = new int[MOST_TICKS + 1];
        private final int[][] starts = new int[MOST_FACTS][MOST_TICKS + 1];
        private final int[] ends = new int[SETS];
        private final int[] lasts = new int[SETS];

        void lay(Film film, int speed, int breathNow) {
            breath = breathNow;
            texted = 0;
            heaviest = 0;
            fillGapEnds(film, false, quietEnds);
            fillGapEnds(film, true, silentEnds);
            for (int number = 0; number < MOST_FACTS; number++) {
                Fact fact = film.find(number);
                if (fact != null && fact.hasVersion(0)) {
                    texted |= 1 << number;
                    heaviest = Math.max(heaviest, fact.weight);
                    weights[number] = fact.weight;
                    lengths[number] = fact.length(0, speed);
                    unlike[number] = bitsUnlike(film, fact);
                    fillStarts(film, fact, lengths[number], starts[number]);
                }
            }
            ends[0] = 0;
            for (int set = 1; set < SETS; set++) {
                layWay(set);
            }
            isLaid = true;
        }

        private static int bitsUnlike(Film film, Fact fact) {
            int bits = 0;
            for (int number = 0; number < MOST_FACTS; number++) {
                if (fact.isUnlike(film.find(number))) {
                    bits |= 1 << number;
                }
            }
            return bits;
        }

        /** Tells for each tick of a gap where that gap ends, for any other tick that tick. */
        private static void fillGapEnds(Film film, boolean isSilent, int[] row) {
            for (int tick = 0; tick < row.length; tick++) {
                row[tick] = tick;
            }
            int start = film.quietFrom(0, 1, isSilent);
            for (int i = 0; i < MOST_TICKS && start < film.ticks; i++) {
                int end = film.gapEnd(isSilent, start);
                for (int tick = start; tick >= 0 && tick < end && tick < row.length; tick++) {
                    row[tick] = end;
                }
                start = film.quietFrom(end, 1, isSilent);
            }
        }

        /** Tells for each tick the first one from it on at which the first version can start. */
        private void fillStarts(Film film, Fact fact, int length, int[] row) {
            int[] gapEnds = fact.isOver ? quietEnds : silentEnds;
            int earliest = film.earliestStart(fact);
            int latest = Math.min(fact.by, film.ticks) - length;
            int first = NONE;
            for (int tick = Math.min(row.length, gapEnds.length) - 1; tick >= 0; tick--) {
                if (tick >= earliest && tick <= latest && tick + length <= gapEnds[tick]) {
                    first = tick;
                }
                row[tick] = first;
            }
        }

        /** Where a fact can start behind a set that ends at a tick, NONE if nowhere. */
        private int startBehind(int fact, int set, int end) {
            int tick = set == 0 ? 0 : end + breath;
            if (fact < 0 || fact >= MOST_FACTS || tick < 0 || tick > MOST_TICKS) {
                return NONE;
            }
            boolean isFree = (texted >> fact & 1) == 1 && (set >> fact & 1) == 0 && (unlike[fact] & set) == 0;
            return isFree ? starts[fact][tick] : NONE;
        }

        /** A set with unlike terms gets no way either: each of its ways would put one behind the other. */
        private void layWay(int set) {
            if (set < 0 || set >= SETS) {
                return;
            }
            ends[set] = NONE;
            boolean haveTexts = (set & ~texted) == 0;
            for (int fact = 0; haveTexts && fact < MOST_FACTS; fact++) {
                int rest = set & ~(1 << fact);
                int restEnd = rest == set ? NONE : endOf(rest);
                int start = restEnd == NONE ? NONE : startBehind(fact, rest, restEnd);
                if (start != NONE && (ends[set] == NONE || start + lengths[fact] < ends[set])) {
                    ends[set] = start + lengths[fact];
                    lasts[set] = fact;
                }
            }
        }

        /** NONE if the set cannot be told. */
        int endOf(int set) {
            return set >= 0 && set < SETS ? ends[set] : NONE;
        }

        int lastOf(int set) {
            return set >= 0 && set < SETS ? lasts[set] : NONE;
        }

        int lengthOf(int fact) {
            return fact >= 0 && fact < MOST_FACTS ? lengths[fact] : 0;
        }

        int weightOf(int set) {
            int sum = 0;
            for (int fact = 0; fact < MOST_FACTS; fact++) {
                if ((set >> fact & 1) == 1) {
                    sum += weights[fact];
                }
            }
            return sum;
        }

        /** Sets come by their numbers, so of like ones the lowest stays. */
        int bestSet() {
            int best = 0;
            int bestWeight = 0;
            for (int set = 1; set < SETS; set++) {
                int weight = ends[set] == NONE ? NONE : weightOf(set);
                boolean isFewer = Integer.bitCount(set) < Integer.bitCount(best);
                if (weight > bestWeight || weight == bestWeight && isFewer) {
                    best = set;
                    bestWeight = weight;
                }
            }
            return best;
        }

        boolean hasMoreThan(int limit) {
            return isMoreFound(this, 0, 0, 0, limit, 0);
        }

        /** Tries each fact behind those of a set, if all that may follow could go beyond the limit. */
        private static boolean isMoreFound(Ways ways, int set, int end, int weight, int limit, int depth) {
            if (weight > limit) {
                return true;
            }
            int left = MOST_ORDERED - depth;
            if (left <= 0 || weight + left * ways.heaviest <= limit) {
                return false;
            }
            for (int fact = 0; fact < MOST_FACTS; fact++) {
                int start = ways.startBehind(fact, set, end);
                if (start != NONE && isMoreFound(ways, set | 1 << fact, start + ways.lengths[fact],
                        weight + ways.weights[fact], limit, depth + 1)) {
                    return true;
                }
            }
            return false;
        }
    }

    private static final class Plan {
        boolean isMade;
        int count;
        int weight;
        final int[] facts = new int[MOST_FACTS];
        final int[] starts = new int[MOST_FACTS];
        final int[] versions = new int[MOST_FACTS];

        void make(Film film, Ways ways, int speed, int breath) {
            int set = ways.bestSet();
            weight = ways.weightOf(set);
            count = Math.min(Integer.bitCount(set), MOST_FACTS);
            for (int i = count - 1; i >= 0; i--) {
                int last = ways.lastOf(set);
                facts[i] = last;
                starts[i] = ways.endOf(set) - ways.lengthOf(last);
                set &= ~(1 << last);
            }
            for (int i = 0; i < count; i++) {
                versions[i] = longestVersion(film, i, speed, breath);
            }
            isMade = true;
        }

        private int longestVersion(Film film, int place, int speed, int breath) {
            for (int version = MOST_VERSIONS - 1; version > 0; version--) {
                if (canBeAt(film, place, version, speed, breath)) {
                    return version;
                }
            }
            return 0;
        }

        /** Whether a version can be at a place, with a breath ahead of the text of the next one. */
        private boolean canBeAt(Film film, int place, int version, int speed, int breath) {
            if (place < 0 || place >= count || place >= MOST_FACTS) {
                return false;
            }
            Fact fact = film.find(facts[place]);
            if (fact == null || !fact.hasVersion(version)) {
                return false;
            }
            int length = fact.length(version, speed);
            int next = place + 1;
            boolean isAhead = next >= count || next >= MOST_FACTS || starts[place] + length + breath <= starts[next];
            return isAhead && film.canPlace(fact, length, starts[place]);
        }

        boolean isPlaceable(Film film, int speed, int breath) {
            for (int i = 0; i < count && i < MOST_FACTS; i++) {
                if (!canBeAt(film, i, versions[i], speed, breath)) {
                    return false;
                }
            }
            return true;
        }

        int placeOf(int fact) {
            for (int i = 0; i < count && i < MOST_FACTS; i++) {
                if (facts[i] == fact) {
                    return i;
                }
            }
            return NONE;
        }
    }

    private static final class Stage {
        boolean isLive;
        boolean isSpeaking;
        final boolean[] isCalled = new boolean[PEOPLE];
        private final char[] became = new char[MOST_FACTS];
        private int underWay = NONE;
        private int left;
        private int sinceText;

        void begin() {
            isLive = true;
            isSpeaking = false;
            for (int i = 0; i < isCalled.length; i++) {
                isCalled[i] = false;
            }
            for (int i = 0; i < became.length; i++) {
                became[i] = '-';
            }
            underWay = NONE;
            left = 0;
            // No text was there before, so none has to be waited for.
            sinceText = MOST_BREATH;
        }

        void hear(boolean is) {
            isSpeaking = is;
            if (is) {
                breakOff('l');
            }
        }

        boolean canBegin(int fact, int person, int breath) {
            boolean isNamed = person < 0 || person >= isCalled.length || isCalled[person];
            return underWay == NONE && !isSpeaking && sinceText >= breath && becameOf(fact) != 't' && isNamed;
        }

        void startText(int fact, int length) {
            underWay = fact;
            left = length;
            become(fact, 'u');
        }

        /** Nobody speaks while a text is under way: speech breaks it off, and ahead of a cue there is none. */
        int pass(int ticks) {
            if (underWay == NONE) {
                sinceText += ticks;
                return 0;
            }
            if (ticks < left) {
                left -= ticks;
                return 0;
            }
            int behind = ticks - left;
            breakOff('t');
            sinceText = behind;
            return 1;
        }

        void forget(int fact) {
            if (fact == underWay) {
                breakOff('-');
            }
            become(fact, '-');
        }

        char becameOf(int fact) {
            return fact >= 0 && fact < became.length ? became[fact] : '-';
        }

        private void become(int fact, char what) {
            if (fact >= 0 && fact < became.length) {
                became[fact] = what;
            }
        }

        private void breakOff(char what) {
            if (underWay != NONE) {
                become(underWay, what);
                underWay = NONE;
                left = 0;
                sinceText = 0;
            }
        }
    }

    private static final class Marks {
        private final int[] given = new int[MOST_FACTS * LISTENERS];

        Marks() {
            Arrays.fill(given, NONE);
        }

        int give(int fact, int listener, int mark) {
            int place = fact * LISTENERS + listener;
            if (place < 0 || place >= given.length) {
                return NONE;
            }
            int before = given[place];
            given[place] = mark;
            return before;
        }

        void forget(int fact) {
            for (int listener = 0; listener < LISTENERS; listener++) {
                give(fact, listener, NONE);
            }
        }

        private int of(int fact, int listener) {
            int place = fact * LISTENERS + listener;
            return place < 0 || place >= given.length ? NONE : given[place];
        }

        /** 100 times the mean of all but a greatest and a least mark, NONE if there are fewer than 3. */
        int meanInside(int fact) {
            int count = 0;
            int sum = 0;
            int least = MOST_MARK;
            int greatest = 0;
            for (int listener = 0; listener < LISTENERS; listener++) {
                int mark = of(fact, listener);
                if (mark != NONE) {
                    count++;
                    sum += mark;
                    least = Math.min(least, mark);
                    greatest = Math.max(greatest, mark);
                }
            }
            return count < LEAST_MARKS ? NONE : 100 * (sum - least - greatest) / (count - 2);
        }
    }
}
