import java.util.NoSuchElementException;

/** For each promise of the document: ordinary calls, the edges that it names, and wrong ones. */
public final class PromisesTest {
    private static final Class<IllegalArgumentException> ARGUMENT = IllegalArgumentException.class;
    private static final Class<IllegalStateException> STATE = IllegalStateException.class;
    private static final Class<IndexOutOfBoundsException> INDEX = IndexOutOfBoundsException.class;
    private static final Class<UnsupportedOperationException> UNSUPPORTED = UnsupportedOperationException.class;
    private static final Class<NoSuchElementException> ELEMENT = NoSuchElementException.class;
    private static final int LOW = Integer.MIN_VALUE;
    private static final int HIGH = Integer.MAX_VALUE;

    public static void main(String[] args) {
        p01NewObject();
        p02Film();
        p03Sound();
        p04Sounds();
        p05Unsound();
        p06Gaps();
        p07GapAt();
        p08Named();
        p09Voice();
        p10Fact();
        p11Drop();
        p12Names();
        p13Thing();
        p14Version();
        p15Ticks();
        p16CanStart();
        p17FirstStart();
        p18PlanSets();
        p18PlanEnds();
        p18PlanTies();
        p18PlanWays();
        p18PlanVersions();
        p18PlanStays();
        p19Weight();
        p20Loss();
        p21Planned();
        p22Start();
        p23VersionOf();
        p24CanTell();
        p25Cut();
        p25CutOfSounds();
        p26Insert();
        p27Edition();
        p28Use();
        p29Live();
        p30Speak();
        p31Call();
        p32Cue();
        p33Tick();
        p34Told();
        p35Mark();
        p36Review();
        p37Checksum();
        p38IsSound();
        Checks.end();
    }

    private static void due(String call, Object got, Object want) {
        Checks.due(call, got, want);
    }

    private static void fails(String call, Class<? extends RuntimeException> kind, Checks.Call made) {
        Checks.fails(call, kind, made);
    }

    /** A film with so many facts from 0 to 600, of weight 5, with a text of 4 syllables. */
    private static SaywhatSeen withFacts(int many) {
        SaywhatSeen x = new SaywhatSeen();
        for (int i = 0; i < many; i++) {
            x.fact(0, 600, 5, 0, true);
            x.version(i, 4);
        }
        return x;
    }

    private static void p01NewObject() {
        SaywhatSeen x = new SaywhatSeen();
        due("1 sounds", x.sounds(), 0);
        due("1 gaps", x.gaps(true), 1);
        due("1 gapAt", x.gapAt(true, 0, false), 600);
        due("1 checksum", x.checksum(), 817L);
        fails("1 no stage", STATE, () -> x.tick(1));
        due("1 live", x.live(), 0);
        fails("1 no fact", INDEX, () -> x.drop(0));
        due("1 named", x.named(9, 0), -1);
        due("1 voice", x.voice(4, 3), 4);
        due("1 breath", breathOf(new SaywhatSeen()), 3);
        due("1 film", x.film(600), 600);
        fails("1 no plan", STATE, () -> x.weight());
        fails("1 no edition", INDEX, () -> x.use(0));
    }

    private static int breathOf(SaywhatSeen x) {
        for (int i = 0; i < 2; i++) {
            x.fact(0, 600, 5, 0, true);
            x.version(i, 4);
        }
        x.plan();
        return x.start(0) - x.start(1) - 10;
    }

    private static void p02Film() {
        SaywhatSeen x = new SaywhatSeen();
        due("2 most", x.film(900), 600);
        due("2 least", x.film(1), 900);
        fails("2 none", ARGUMENT, () -> x.film(0));
        fails("2 below", ARGUMENT, () -> x.film(LOW));
        fails("2 more", ARGUMENT, () -> x.film(901));
        due("2 back", x.film(100), 1);
        x.sound('g', 0, 50);
        x.fact(0, 60, 1, 0, true);
        fails("2 a fact beyond", UNSUPPORTED, () -> x.film(59));
        due("2 up to the fact", x.film(60), 100);
        x.drop(0);
        fails("2 a sound beyond", UNSUPPORTED, () -> x.film(49));
        due("2 up to the sound", x.film(50), 60);
        fails("2 range ahead of beyond", ARGUMENT, () -> x.film(-3));
        x.named(3, 49);
        x.unsound();
        due("2 a name does not hold", x.film(10), 50);
        due("2 the name stays", x.named(3, -1), 49);
    }

    private static void p03Sound() {
        SaywhatSeen x = new SaywhatSeen();
        due("3 first", x.sound('s', 0, 1), 1);
        due("3 overlap", x.sound('g', 0, 600), 2);
        due("3 last tick", x.sound('n', 599, 600), 3);
        fails("3 kind", ARGUMENT, () -> x.sound('x', 0, 1));
        fails("3 kind in capitals", ARGUMENT, () -> x.sound('S', 0, 1));
        fails("3 empty", ARGUMENT, () -> x.sound('s', 5, 5));
        fails("3 turned", ARGUMENT, () -> x.sound('s', 6, 5));
        fails("3 ahead of the film", ARGUMENT, () -> x.sound('s', -1, 5));
        fails("3 beyond", ARGUMENT, () -> x.sound('s', 599, 601));
        fails("3 far beyond", ARGUMENT, () -> x.sound('s', 0, HIGH));
        for (int i = 3; i < 30; i++) {
            due("3 one more", x.sound('g', i, i + 2), i + 1);
        }
        fails("3 full", STATE, () -> x.sound('s', 0, 1));
        fails("3 range ahead of full", ARGUMENT, () -> x.sound('s', 1, 1));
        due("3 nothing changed", x.sounds(), 30);
    }

    private static void p04Sounds() {
        SaywhatSeen x = new SaywhatSeen();
        due("4 none", x.sounds(), 0);
        x.sound('s', 0, 10);
        x.sound('s', 0, 10);
        due("4 two", x.sounds(), 2);
        x.cut(0, 10);
        due("4 gone by a cut", x.sounds(), 0);
    }

    private static void p05Unsound() {
        SaywhatSeen x = new SaywhatSeen();
        fails("5 none", ELEMENT, () -> x.unsound());
        x.sound('s', 100, 200);
        x.sound('s', 0, 50);
        due("5 one left", x.unsound(), 1);
        due("5 the last one told goes", x.gapAt(false, 0, false), 100);
        due("5 none left", x.unsound(), 0);
        due("5 quiet", x.gaps(false), 1);
        fails("5 none again", ELEMENT, () -> x.unsound());
    }

    private static void p06Gaps() {
        SaywhatSeen x = new SaywhatSeen();
        x.sound('s', 10, 20);
        x.sound('n', 20, 30);
        x.sound('g', 40, 50);
        due("6 quiet", x.gaps(false), 2);
        due("6 silent", x.gaps(true), 3);
        x.sound('s', 31, 600);
        due("6 one tick is a gap", x.gaps(false), 2);
        x.sound('n', 30, 31);
        due("6 sounds one behind the other", x.gaps(false), 1);
        x.sound('g', 0, 10);
        due("6 none silent", x.gaps(true), 0);
        x.sound('s', 0, 600);
        due("6 none", x.gaps(false), 0);
        due("6 many", manyGaps().gaps(false), 31);
    }

    private static SaywhatSeen manyGaps() {
        SaywhatSeen x = new SaywhatSeen();
        for (int i = 29; i >= 0; i--) {
            x.sound('n', 1 + 2 * i, 2 + 2 * i);
        }
        return x;
    }

    private static void p07GapAt() {
        SaywhatSeen x = new SaywhatSeen();
        x.sound('s', 10, 20);
        x.sound('s', 15, 30);
        x.sound('g', 40, 50);
        due("7 first", x.gapAt(false, 0, true), 0);
        due("7 first end", x.gapAt(false, 0, false), 10);
        due("7 second", x.gapAt(false, 1, true), 30);
        due("7 second end", x.gapAt(false, 1, false), 600);
        due("7 silent end", x.gapAt(true, 1, false), 40);
        due("7 behind music", x.gapAt(true, 2, true), 50);
        fails("7 no third", ELEMENT, () -> x.gapAt(false, 2, true));
        fails("7 no fourth", ELEMENT, () -> x.gapAt(true, 3, false));
        fails("7 below", ELEMENT, () -> x.gapAt(true, -1, true));
        fails("7 lowest", ELEMENT, () -> x.gapAt(true, LOW, true));
        fails("7 highest", ELEMENT, () -> x.gapAt(true, HIGH, true));
        due("7 last of many", manyGaps().gapAt(false, 30, true), 60);
        due("7 a gap within many", manyGaps().gapAt(false, 29, false), 59);
    }

    private static void p08Named() {
        SaywhatSeen x = new SaywhatSeen();
        due("8 never", x.named(0, 5), -1);
        due("8 before", x.named(0, 599), 5);
        due("8 last tick", x.named(0, -1), 599);
        due("8 never again", x.named(0, 0), -1);
        due("8 another", x.named(9, 7), -1);
        fails("8 person below", ARGUMENT, () -> x.named(-1, 5));
        fails("8 person beyond", ARGUMENT, () -> x.named(10, 5));
        fails("8 tick below", ARGUMENT, () -> x.named(0, -2));
        fails("8 tick beyond", ARGUMENT, () -> x.named(0, 600));
        due("8 nothing changed", x.named(0, 1), 0);
    }

    private static void p09Voice() {
        SaywhatSeen x = withFacts(2);
        due("9 slowest", x.voice(2, 20), 4);
        due("9 ticks then", x.ticks(0, 0), 20);
        x.plan();
        due("9 breath then", x.start(0), 40);
        due("9 fastest", x.voice(9, 0), 2);
        x.plan();
        due("9 without breath", x.start(0), 5);
        fails("9 slow", ARGUMENT, () -> x.voice(1, 0));
        fails("9 fast", ARGUMENT, () -> x.voice(10, 0));
        fails("9 breath below", ARGUMENT, () -> x.voice(4, -1));
        fails("9 breath beyond", ARGUMENT, () -> x.voice(4, 21));
        due("9 nothing changed", x.voice(9, 0), 9);
    }

    private static void p10Fact() {
        SaywhatSeen x = new SaywhatSeen();
        due("10 least", x.fact(0, 1, 1, 0, true), 0);
        due("10 most", x.fact(599, 600, 99, 60, false), 1);
        fails("10 from below", ARGUMENT, () -> x.fact(-1, 10, 5, 0, true));
        fails("10 by too early", ARGUMENT, () -> x.fact(10, 10, 5, 0, true));
        fails("10 by beyond", ARGUMENT, () -> x.fact(10, 601, 5, 0, true));
        fails("10 by far beyond", ARGUMENT, () -> x.fact(10, HIGH, 5, 0, true));
        fails("10 no weight", ARGUMENT, () -> x.fact(0, 10, 0, 0, true));
        fails("10 weight", ARGUMENT, () -> x.fact(0, 10, 100, 0, true));
        fails("10 ahead below", ARGUMENT, () -> x.fact(0, 10, 5, -1, true));
        fails("10 ahead", ARGUMENT, () -> x.fact(0, 10, 5, 61, true));
        for (int i = 2; i < 10; i++) {
            due("10 one more", x.fact(0, 10, 5, 0, true), i);
        }
        fails("10 full", STATE, () -> x.fact(0, 10, 5, 0, true));
        fails("10 range ahead of full", ARGUMENT, () -> x.fact(0, 0, 5, 0, true));
        x.drop(7);
        x.drop(3);
        due("10 lowest free", x.fact(0, 10, 5, 0, true), 3);
        due("10 next free", x.fact(0, 10, 5, 0, true), 7);
        fails("10 a new one has no text", ELEMENT, () -> x.ticks(3, 0));
    }

    private static void p11Drop() {
        SaywhatSeen x = withFacts(3);
        x.names(1, 4);
        x.thing(1, 4, 4);
        due("11 left", x.drop(1), 2);
        fails("11 gone", INDEX, () -> x.drop(1));
        fails("11 below", INDEX, () -> x.drop(-1));
        fails("11 beyond", INDEX, () -> x.drop(10));
        due("11 live", x.live(), 2);
        x.mark(0, 0, 5);
        x.cue(0);
        x.tick(4);
        due("11 under way goes", x.drop(0), 1);
        fails("11 the breath begins then", UNSUPPORTED, () -> x.cue(2));
        due("11 free again", x.fact(0, 9, 5, 0, true), 0);
        due("11 not lost", x.told(0), '-');
        due("11 its mark is gone", x.mark(0, 0, 5), -1);
        x.tick(2);
        fails("11 no breath yet, from its going", UNSUPPORTED, () -> x.cue(2));
        due("11 nothing under way", x.tick(1), 0);
        due("11 free to cue", x.cue(2), 10);
        due("11 free number", x.fact(0, 9, 5, 0, true), 1);
        due("11 a new one names none", x.names(1, -1), -1);
        due("11 a new one is of no thing", x.thing(1, -1, 0), -1);
        SaywhatSeen told = withFacts(3);
        told.live();
        told.cue(1);
        told.tick(10);
        told.mark(0, 5, 1);
        told.mark(2, 0, 2);
        told.drop(1);
        told.fact(0, 9, 5, 0, true);
        due("11 what became of it is gone", told.told(1), '-');
        due("11 a mark of the one ahead stays", told.mark(0, 5, 1), 1);
        due("11 a mark of the one behind stays", told.mark(2, 0, 2), 2);
    }

    private static void p12Names() {
        SaywhatSeen x = withFacts(1);
        due("12 none", x.names(0, 9), -1);
        fails("12 whom the film never names", ELEMENT, () -> x.firstStart(0, 0, 0));
        x.named(9, 44);
        due("12 as soon as named", x.firstStart(0, 0, 0), 44);
        due("12 before", x.names(0, 0), 9);
        due("12 none again", x.names(0, -1), 0);
        due("12 any tick", x.firstStart(0, 0, 0), 0);
        fails("12 below", ARGUMENT, () -> x.names(0, -2));
        fails("12 beyond", ARGUMENT, () -> x.names(0, 10));
        fails("12 no fact", INDEX, () -> x.names(1, 10));
        due("12 nothing changed", x.names(0, -1), -1);
    }

    private static void p13Thing() {
        SaywhatSeen x = withFacts(2);
        due("13 none", x.thing(0, 9, 9), -1);
        x.thing(1, 9, 8);
        due("13 unlike terms", x.canTell(3), false);
        due("13 before", x.thing(1, 9, 9), 9);
        due("13 like terms", x.canTell(3), true);
        x.thing(1, 8, 8);
        due("13 another thing", x.canTell(3), true);
        x.thing(1, -1, 8);
        x.thing(0, -1, 9);
        due("13 no thing, no term", x.canTell(3), true);
        due("13 none again", x.thing(0, 0, 0), -1);
        fails("13 thing below", ARGUMENT, () -> x.thing(0, -2, 0));
        fails("13 thing beyond", ARGUMENT, () -> x.thing(0, 10, 0));
        fails("13 term below", ARGUMENT, () -> x.thing(0, 0, -1));
        fails("13 term beyond", ARGUMENT, () -> x.thing(0, 0, 10));
        fails("13 no fact", INDEX, () -> x.thing(2, 10, 0));
        due("13 nothing changed", x.thing(0, -1, 0), 0);
        p13NoThing();
    }

    /** Without a thing a term has no meaning: whatever it is, the call goes through. */
    private static void p13NoThing() {
        for (int term : new int[] {-1, 10, 0, 9, Integer.MIN_VALUE, Integer.MAX_VALUE}) {
            SaywhatSeen x = withFacts(2);
            due("13 none before, term " + term, x.thing(0, -1, term), -1);
            due("13 none still, term " + term, x.thing(0, 3, 1), -1);
            x.thing(1, 3, 2);
            due("13 unlike ahead of term " + term, x.canTell(3), false);
            x.plan();
            due("13 none any more, term " + term, x.thing(0, -1, term), 3);
            fails("13 no plan behind term " + term, STATE, () -> x.weight());
            due("13 like behind term " + term, x.canTell(3), true);
            x.thing(1, -1, term);
            due("13 no terms, term " + term, x.canTell(3), true);
            fails("13 no fact, term " + term, INDEX, () -> x.thing(2, -1, term));
            fails("13 not none, term " + term, ARGUMENT, () -> x.thing(0, -2, term));
            due("13 a thing behind term " + term, x.thing(0, 3, 2), -1);
            due("13 its term behind term " + term, x.thing(1, 3, 2) == -1 && x.canTell(3), true);
            due("13 kept in an edition, term " + term, keptWithout(term), -1);
        }
        SaywhatSeen y = withFacts(1);
        y.thing(0, 4, 5);
        fails("13 lowest term of a thing", ARGUMENT, () -> y.thing(0, 9, Integer.MIN_VALUE));
        fails("13 greatest term of a thing", ARGUMENT, () -> y.thing(0, 0, Integer.MAX_VALUE));
        due("13 the thing stays", y.thing(0, -1, -1), 4);
    }

    private static int keptWithout(int term) {
        SaywhatSeen x = withFacts(1);
        x.thing(0, -1, term);
        x.edition();
        x.thing(0, 1, 1);
        x.use(0);
        return x.thing(0, 1, 1);
    }

    private static void p14Version() {
        SaywhatSeen x = new SaywhatSeen();
        x.fact(0, 600, 5, 0, true);
        fails("14 none", ARGUMENT, () -> x.version(0, 0));
        fails("14 beyond", ARGUMENT, () -> x.version(0, 81));
        fails("14 no fact", INDEX, () -> x.version(1, 81));
        due("14 first", x.version(0, 1), 1);
        fails("14 like", ARGUMENT, () -> x.version(0, 1));
        due("14 second", x.version(0, 2), 2);
        fails("14 shorter", ARGUMENT, () -> x.version(0, 1));
        due("14 third", x.version(0, 79), 3);
        fails("14 full", STATE, () -> x.version(0, 80));
        fails("14 range ahead of full", ARGUMENT, () -> x.version(0, 79));
        due("14 longest", x.ticks(0, 2), 198);
        x.fact(0, 600, 5, 0, true);
        due("14 most", x.version(1, 80), 1);
        fails("14 nothing is longer", ARGUMENT, () -> x.version(1, 80));
    }

    private static void p15Ticks() {
        SaywhatSeen x = new SaywhatSeen();
        x.fact(0, 600, 5, 0, true);
        fails("15 no text", ELEMENT, () -> x.ticks(0, 0));
        x.version(0, 1);
        x.version(0, 4);
        due("15 rounded up", x.ticks(0, 0), 3);
        due("15 even", x.ticks(0, 1), 10);
        x.voice(9, 0);
        due("15 faster", x.ticks(0, 0), 2);
        due("15 rounded up again", x.ticks(0, 1), 5);
        fails("15 no third", ELEMENT, () -> x.ticks(0, 2));
        fails("15 below", ELEMENT, () -> x.ticks(0, -1));
        fails("15 beyond", ELEMENT, () -> x.ticks(0, 3));
        fails("15 no fact", INDEX, () -> x.ticks(1, -1));
        fails("15 fact below", INDEX, () -> x.ticks(-1, 0));
    }

    private static void p16CanStart() {
        SaywhatSeen x = new SaywhatSeen();
        x.fact(50, 100, 5, 20, false);
        x.version(0, 4);
        due("16 ahead", x.canStart(0, 0, 30), true);
        due("16 too far ahead", x.canStart(0, 0, 29), false);
        due("16 ends by", x.canStart(0, 0, 90), true);
        due("16 ends late", x.canStart(0, 0, 91), false);
        due("16 highest", x.canStart(0, 0, HIGH), false);
        due("16 lowest", x.canStart(0, 0, LOW), false);
        x.sound('s', 40, 45);
        due("16 ahead of speech", x.canStart(0, 0, 30), true);
        due("16 into speech", x.canStart(0, 0, 31), false);
        due("16 in speech", x.canStart(0, 0, 44), false);
        due("16 behind speech", x.canStart(0, 0, 45), true);
        x.sound('n', 60, 61);
        due("16 noise", x.canStart(0, 0, 55), false);
        x.sound('g', 80, 81);
        due("16 not over music", x.canStart(0, 0, 75), false);
        x.fact(0, 600, 5, 60, true);
        x.version(1, 4);
        due("16 over music", x.canStart(1, 0, 75), true);
        due("16 not ahead of the film", x.canStart(1, 0, -1), false);
        due("16 to the end of the film", x.canStart(1, 0, 590), true);
        x.names(1, 2);
        due("16 not named", x.canStart(1, 0, 300), false);
        x.named(2, 300);
        due("16 just named", x.canStart(1, 0, 300), true);
        due("16 named later", x.canStart(1, 0, 299), false);
        x.names(1, 0);
        due("16 the person 0 is not named", x.canStart(1, 0, 300), false);
        fails("16 no version", ELEMENT, () -> x.canStart(0, 1, 30));
        fails("16 version below", ELEMENT, () -> x.canStart(0, -1, 30));
        fails("16 no fact", INDEX, () -> x.canStart(2, 1, 30));
    }

    private static void p17FirstStart() {
        SaywhatSeen x = new SaywhatSeen();
        x.fact(50, 100, 5, 20, false);
        x.version(0, 4);
        due("17 first", x.firstStart(0, 0, 0), 30);
        due("17 from below", x.firstStart(0, 0, LOW), 30);
        due("17 from one on", x.firstStart(0, 0, 77), 77);
        due("17 last", x.firstStart(0, 0, 90), 90);
        fails("17 too late", ELEMENT, () -> x.firstStart(0, 0, 91));
        fails("17 beyond the film", ELEMENT, () -> x.firstStart(0, 0, 601));
        fails("17 highest", ELEMENT, () -> x.firstStart(0, 0, HIGH));
        x.sound('s', 85, 86);
        x.sound('n', 75, 77);
        x.sound('s', 39, 66);
        due("17 behind sounds", x.firstStart(0, 0, 0), 86);
        x.sound('g', 90, 91);
        fails("17 no room", ELEMENT, () -> x.firstStart(0, 0, 0));
        fails("17 none from the last tick of the film", ELEMENT, () -> x.firstStart(0, 0, 600));
        fails("17 no version", ELEMENT, () -> x.firstStart(0, 1, 0));
        fails("17 no fact", INDEX, () -> x.firstStart(1, 1, 0));
        SaywhatSeen many = manyGaps();
        many.fact(0, 600, 5, 0, true);
        many.version(0, 4);
        due("17 behind 30 sounds", many.firstStart(0, 0, 0), 60);
    }

    private static void p18PlanSets() {
        SaywhatSeen x = new SaywhatSeen();
        due("18 without facts", x.plan(), 0);
        x.fact(0, 40, 10, 0, true);
        due("18 without texts", x.plan(), 0);
        x.version(0, 4);
        x.fact(0, 40, 10, 0, true);
        x.version(1, 4);
        x.fact(0, 40, 10, 0, true);
        x.version(2, 4);
        due("18 three that just fit", x.plan(), 3);
        due("18 of like ends the lowest is last", x.start(0), 26);
        x.voice(4, 6);
        due("18 two with a longer breath", x.plan(), 2);
        x.thing(0, 1, 1);
        x.thing(1, 1, 2);
        due("18 unlike terms keep apart", x.plan(), 2);
        due("18 of like sets the lowest", 10 * x.planned(0) + x.planned(1), 20);
        SaywhatSeen all = withFacts(10);
        due("18 all ten", all.plan(), 10);
        due("18 the last of ten", all.start(0), 117);
        due("18 the first of ten", all.planned(0), 9);
    }

    private static void p18PlanEnds() {
        for (int end = 895; end <= 900; end++) {
            SaywhatSeen x = new SaywhatSeen();
            x.film(900);
            x.fact(end - 10, end, 9, 0, true);
            x.version(0, 4);
            x.fact(0, 900, 5, 0, false);
            x.version(1, 80);
            x.sound('g', 0, end - 9);
            due("18 one at the end of the film", x.plan(), 1);
            due("18 the start of that", x.start(0), end - 10);
            x.fact(end - 2, 900, 5, 0, false);
            x.version(2, 1);
            x.voice(9, 3);
            due("18 one more behind it, if there is room", x.plan(), end - 5 + 3 + 2 <= 900 ? 2 : 1);
        }
    }

    private static void p18PlanTies() {
        SaywhatSeen x = new SaywhatSeen();
        x.film(23);
        x.fact(0, 23, 5, 0, true);
        x.version(0, 4);
        x.fact(0, 23, 5, 0, true);
        x.version(1, 4);
        x.fact(0, 23, 10, 0, true);
        x.version(2, 9);
        due("18 of like weights the fewest facts", x.plan(), 1);
        due("18 that one", x.planned(0), 2);
        x.fact(0, 23, 10, 0, true);
        x.version(3, 9);
        x.plan();
        due("18 of like ones the lowest", x.planned(0), 2);
        x.drop(2);
        x.plan();
        due("18 the other one", x.planned(0), 3);
        x.fact(0, 23, 6, 0, true);
        x.version(2, 4);
        due("18 the greater weight", x.plan(), 2);
        due("18 with the lowest of like ones", x.start(0) + x.start(2), 13);
        fails("18 without the other", ELEMENT, () -> x.start(1));
    }

    private static void p18PlanWays() {
        SaywhatSeen x = new SaywhatSeen();
        x.voice(4, 0);
        x.fact(0, 600, 5, 0, true);
        x.version(0, 8);
        x.fact(0, 25, 5, 0, true);
        x.version(1, 4);
        x.fact(30, 45, 5, 0, true);
        x.version(2, 4);
        due("18 three", x.plan(), 3);
        due("18 the one in haste", x.start(1), 0);
        due("18 the one that is late", x.start(2), 30);
        due("18 the one between", x.start(0), 10);
        due("18 the order of starts", 100 * x.planned(0) + 10 * x.planned(1) + x.planned(2), 102);
        SaywhatSeen late = new SaywhatSeen();
        late.voice(4, 20);
        late.fact(5, 600, 5, 0, true);
        late.version(0, 4);
        late.plan();
        due("18 the first needs no breath", late.start(0), 5);
    }

    private static void p18PlanVersions() {
        SaywhatSeen x = new SaywhatSeen();
        x.film(100);
        x.fact(0, 100, 5, 0, true);
        x.version(0, 4);
        x.version(0, 8);
        x.version(0, 12);
        x.fact(23, 33, 5, 0, true);
        x.version(1, 4);
        x.version(1, 6);
        x.plan();
        due("18 first", x.start(0), 0);
        due("18 second", x.start(1), 23);
        due("18 a breath ahead of the next", x.versionOf(0), 1);
        due("18 by its tick", x.versionOf(1), 0);
        x.voice(4, 4);
        x.plan();
        due("18 a longer breath", x.versionOf(0), 0);
        x.drop(1);
        x.plan();
        due("18 alone", x.versionOf(0), 2);
        x.sound('g', 20, 30);
        x.plan();
        due("18 over music", x.versionOf(0), 2);
        x.sound('n', 29, 30);
        x.plan();
        due("18 up to a noise", x.versionOf(0), 1);
    }

    private static void p18PlanStays() {
        SaywhatSeen x = withFacts(1);
        x.sound('s', 300, 310);
        x.live();
        x.edition();
        x.plan();
        x.edition();
        x.live();
        x.call(1);
        x.cue(0);
        x.tick(3);
        x.speak(true);
        x.mark(0, 0, 4);
        x.isSound();
        x.checksum();
        x.canTell(1);
        x.gaps(true);
        fails("18 a call that throws", ARGUMENT, () -> x.film(0));
        fails("18 another one", STATE, () -> {
            x.edition();
            x.edition();
            return x.edition();
        });
        due("18 stays", x.weight(), 5);
        gone("film", x, () -> x.film(600));
        gone("sound", x, () -> x.sound('g', 0, 1));
        gone("unsound", x, () -> x.unsound());
        gone("named", x, () -> x.named(0, -1));
        gone("voice", x, () -> x.voice(4, 3));
        gone("names", x, () -> x.names(0, -1));
        gone("thing", x, () -> x.thing(0, -1, 0));
        gone("version", x, () -> x.version(0, 5));
        gone("fact", x, () -> x.fact(0, 5, 5, 5, true));
        gone("drop", x, () -> x.drop(1));
        gone("cut", x, () -> x.cut(599, 1));
        gone("insert", x, () -> x.insert(599, 1));
        gone("use", x, () -> x.use(1));
    }

    private static void gone(String call, SaywhatSeen x, Checks.Call change) {
        x.plan();
        due("18 a plan ahead of " + call, x.weight(), 5);
        change.answer();
        fails("18 no plan behind " + call, STATE, () -> x.weight());
    }

    private static void p19Weight() {
        SaywhatSeen x = withFacts(3);
        fails("19 no plan", STATE, () -> x.weight());
        x.plan();
        due("19 sum", x.weight(), 15);
        x.thing(0, 1, 1);
        x.thing(2, 1, 2);
        x.plan();
        due("19 of those in the plan", x.weight(), 10);
        SaywhatSeen none = new SaywhatSeen();
        none.plan();
        due("19 an empty plan", none.weight(), 0);
    }

    private static void p20Loss() {
        SaywhatSeen x = withFacts(3);
        fails("20 no plan", STATE, () -> x.loss());
        x.plan();
        due("20 none", x.loss(), 0);
        x.fact(0, 600, 99, 0, true);
        x.plan();
        due("20 without a text", x.loss(), 99);
        x.drop(0);
        fails("20 no plan any more", STATE, () -> x.loss());
    }

    private static void p21Planned() {
        SaywhatSeen x = new SaywhatSeen();
        x.fact(300, 600, 5, 0, true);
        x.version(0, 4);
        x.fact(0, 600, 5, 0, true);
        x.version(1, 4);
        fails("21 no plan", STATE, () -> x.planned(9));
        x.plan();
        due("21 first", x.planned(0), 1);
        due("21 second", x.planned(1), 0);
        fails("21 no third", ELEMENT, () -> x.planned(2));
        fails("21 below", ELEMENT, () -> x.planned(-1));
        fails("21 beyond", ELEMENT, () -> x.planned(10));
    }

    private static void p22Start() {
        SaywhatSeen x = withFacts(2);
        x.fact(0, 600, 5, 0, true);
        fails("22 no plan", STATE, () -> x.start(9));
        x.plan();
        due("22 first", x.start(1), 0);
        due("22 behind a breath", x.start(0), 13);
        fails("22 not in the plan", ELEMENT, () -> x.start(2));
        fails("22 no fact", INDEX, () -> x.start(3));
        fails("22 below", INDEX, () -> x.start(-1));
        fails("22 beyond", INDEX, () -> x.start(HIGH));
    }

    private static void p23VersionOf() {
        SaywhatSeen x = withFacts(2);
        x.version(1, 5);
        x.version(0, 80);
        x.fact(0, 600, 5, 0, true);
        fails("23 no plan", STATE, () -> x.versionOf(9));
        x.plan();
        due("23 the last one", x.versionOf(0), 1);
        due("23 the first one", x.versionOf(1), 0);
        fails("23 not in the plan", ELEMENT, () -> x.versionOf(2));
        fails("23 no fact", INDEX, () -> x.versionOf(3));
        fails("23 below", INDEX, () -> x.versionOf(-1));
    }

    private static void p24CanTell() {
        SaywhatSeen x = withFacts(3);
        due("24 nothing", x.canTell(0), true);
        due("24 all", x.canTell(7), true);
        fails("24 another", ARGUMENT, () -> x.canTell(8));
        fails("24 beyond", ARGUMENT, () -> x.canTell(1 << 10));
        fails("24 negative", ARGUMENT, () -> x.canTell(-8));
        fails("24 highest", ARGUMENT, () -> x.canTell(HIGH));
        x.fact(0, 600, 5, 0, true);
        due("24 without a text", x.canTell(9), false);
        x.version(3, 80);
        due("24 with a text", x.canTell(9), true);
        x.sound('s', 0, 27);
        x.sound('s', 40, 600);
        due("24 one has room", x.canTell(4), true);
        due("24 two have none", x.canTell(6), false);
        x.drop(1);
        fails("24 gone", ARGUMENT, () -> x.canTell(2));
        due("24 nothing still", x.canTell(0), true);
        SaywhatSeen order = new SaywhatSeen();
        order.fact(0, 600, 5, 0, true);
        order.version(0, 8);
        order.fact(0, 10, 5, 0, true);
        order.version(1, 4);
        due("24 in another order", order.canTell(3), true);
    }

    private static void p25Cut() {
        SaywhatSeen x = new SaywhatSeen();
        x.film(100);
        x.fact(10, 50, 5, 0, true);
        x.fact(20, 60, 5, 0, true);
        x.fact(29, 60, 5, 0, true);
        x.fact(30, 60, 5, 0, true);
        x.fact(5, 25, 5, 0, true);
        x.named(0, 19);
        x.named(1, 25);
        x.named(2, 30);
        fails("25 from below", ARGUMENT, () -> x.cut(-1, 5));
        fails("25 none", ARGUMENT, () -> x.cut(5, 0));
        fails("25 less than none", ARGUMENT, () -> x.cut(5, LOW));
        fails("25 beyond", ARGUMENT, () -> x.cut(95, 6));
        fails("25 far beyond", ARGUMENT, () -> x.cut(95, HIGH));
        fails("25 from beyond", ARGUMENT, () -> x.cut(HIGH, 1));
        fails("25 all", ARGUMENT, () -> x.cut(0, 100));
        due("25 two are gone", x.cut(20, 10), 2);
        due("25 ticks", x.film(90), 90);
        fails("25 the second", INDEX, () -> x.version(1, 4));
        fails("25 the third", INDEX, () -> x.version(2, 4));
        x.version(0, 4);
        x.version(3, 4);
        x.version(4, 6);
        due("25 seen ahead", x.firstStart(0, 0, 0), 10);
        due("25 told earlier", x.canStart(0, 0, 31), false);
        due("25 seen behind", x.firstStart(3, 0, 0), 20);
        due("25 by a tick that is gone", x.canStart(4, 0, 5), true);
        due("25 by the first one of it", x.canStart(4, 0, 6), false);
        due("25 named ahead", x.named(0, 0), 19);
        due("25 named in it", x.named(1, 0), 20);
        due("25 named behind", x.named(2, 0), 20);
        due("25 the number is free", x.fact(0, 90, 5, 0, true), 1);
        x.named(3, 89);
        x.cut(80, 10);
        due("25 named where the film ends", x.named(3, -1), 80);
        due("25 named at the first tick", x.named(0, -1), 0);
        due("25 never stays never", x.named(3, -1), -1);
        due("25 all but one", x.cut(1, 79), 3);
    }

    private static void p25CutOfSounds() {
        SaywhatSeen x = new SaywhatSeen();
        x.sound('s', 10, 20);
        x.sound('s', 10, 35);
        x.sound('s', 20, 30);
        x.sound('s', 29, 40);
        x.sound('s', 30, 50);
        x.cut(20, 10);
        due("25 one is gone", x.sounds(), 4);
        due("25 the sounds then", x.checksum(), sums(10, 20, 10, 25, 20, 30, 20, 40, 590));
        SaywhatSeen live = withFacts(1);
        live.fact(100, 200, 5, 0, true);
        live.version(1, 4);
        live.mark(0, 1, 1);
        live.live();
        live.cue(0);
        live.tick(1);
        live.cut(5, 20);
        due("25 the stage goes on", live.told(0), 'u');
        due("25 under way is gone", live.cut(0, 1), 1);
        due("25 nothing under way", live.tick(2), 0);
        fails("25 no breath yet", UNSUPPORTED, () -> live.cue(1));
        live.tick(1);
        due("25 a breath", live.cue(1), 10);
        due("25 a new one", live.fact(0, 5, 5, 5, true), 0);
        due("25 not lost", live.told(0), '-');
        due("25 without a mark", live.mark(0, 1, 1), -1);
    }

    private static long sums(long... numbers) {
        long sum = 7;
        for (long number : numbers) {
            sum = 31 * sum + number;
        }
        return sum;
    }

    private static void p26Insert() {
        SaywhatSeen x = new SaywhatSeen();
        x.film(100);
        x.sound('s', 10, 20);
        x.sound('s', 10, 21);
        x.sound('s', 20, 30);
        x.named(0, 19);
        x.named(9, 99);
        x.named(1, 20);
        x.fact(10, 20, 5, 0, true);
        x.fact(20, 40, 5, 0, true);
        x.fact(10, 19, 5, 0, true);
        fails("26 below", ARGUMENT, () -> x.insert(-1, 5));
        fails("26 beyond", ARGUMENT, () -> x.insert(101, 5));
        fails("26 none", ARGUMENT, () -> x.insert(20, 0));
        fails("26 too many", ARGUMENT, () -> x.insert(20, 801));
        fails("26 far too many", ARGUMENT, () -> x.insert(20, HIGH));
        due("26 ticks", x.insert(20, 7), 107);
        due("26 the figures then", x.checksum(), sums(10, 20, 10, 28, 27, 37, 0, 27, 1, 47, 2, 19, 107));
        due("26 named ahead", x.named(0, 0), 19);
        due("26 named then", x.named(1, 0), 27);
        due("26 named behind", x.named(9, 0), 106);
        x.version(1, 1);
        x.unsound();
        due("26 seen later", x.firstStart(1, 0, 0), 28);
        x.sound('s', 27, 37);
        due("26 not within a sound that came later", x.firstStart(1, 0, 0), 37);
        due("26 never stays never", x.named(2, -1), -1);
        due("26 at the end, to the most", x.insert(107, 793), 900);
        fails("26 full", ARGUMENT, () -> x.insert(0, 1));
        due("26 sounds stay", x.sounds(), 3);
        SaywhatSeen first = new SaywhatSeen();
        first.sound('g', 0, 600);
        first.insert(0, 5);
        due("26 ahead of all", first.gapAt(true, 0, false), 5);
        first.insert(605, 5);
        due("26 behind all", first.gapAt(true, 1, true), 605);
    }

    private static void p27Edition() {
        SaywhatSeen x = withFacts(1);
        for (int i = 0; i < 4; i++) {
            due("27 number", x.edition(), i);
        }
        fails("27 full", STATE, () -> x.edition());
        x.use(0);
        fails("27 still full", STATE, () -> x.edition());
    }

    private static void p28Use() {
        SaywhatSeen x = withFacts(2);
        x.sound('s', 5, 9);
        x.named(1, 50);
        x.named(0, 7);
        x.names(0, 1);
        x.thing(0, 2, 3);
        long before = x.checksum();
        x.edition();
        fails("28 no edition", INDEX, () -> x.use(1));
        fails("28 below", INDEX, () -> x.use(-1));
        fails("28 beyond", INDEX, () -> x.use(4));
        changeAll(x);
        due("28 facts", x.use(0), 2);
        due("28 figures", x.checksum(), before);
        due("28 name", x.named(1, 50), 50);
        due("28 the name of the person 0", x.named(0, 7), 7);
        due("28 person", x.names(0, 1), 1);
        due("28 thing", x.thing(0, 2, 3), 2);
        fails("28 versions", ELEMENT, () -> x.ticks(0, 1));
        due("28 the voice stays", x.voice(4, 3), 9);
        changeAll(x);
        due("28 it stays as it was kept", x.use(0), 2);
        due("28 figures again", x.checksum(), before);
        due("28 gaps again", x.gapAt(false, 0, false), 5);
        due("28 terms again", x.thing(1, 2, 3) + (x.canTell(3) ? 10 : 20), 9);
        useOnStage();
    }

    private static void changeAll(SaywhatSeen x) {
        x.version(0, 20);
        x.cut(0, 3);
        x.fact(0, 5, 5, 0, true);
        x.sound('g', 20, 30);
        x.named(1, -1);
        x.insert(1, 30);
        x.voice(9, 9);
    }

    private static void useOnStage() {
        SaywhatSeen x = withFacts(2);
        x.edition();
        x.fact(0, 600, 5, 0, true);
        x.version(2, 4);
        x.edition();
        x.live();
        x.cue(2);
        x.mark(2, 0, 9);
        x.mark(1, 0, 8);
        x.use(1);
        due("28 under way goes on by its number", x.told(2), 'u');
        x.tick(9);
        x.use(0);
        due("28 the mark of one that is there", x.mark(1, 0, 8), 8);
        due("28 broken off", x.tick(2), 0);
        fails("28 no breath yet", UNSUPPORTED, () -> x.cue(1));
        x.tick(1);
        due("28 a breath", x.cue(1), 10);
        x.use(1);
        due("28 not lost", x.told(2), '-');
        due("28 the mark is gone", x.mark(2, 0, 9), -1);
        due("28 the other one goes on", x.tick(10), 1);
        x.use(0);
        due("28 told stays by its number", x.told(1), 't');
    }

    private static void p29Live() {
        SaywhatSeen x = withFacts(2);
        x.fact(0, 600, 5, 0, true);
        due("29 texts", x.live(), 2);
        x.cue(0);
        x.tick(10);
        x.call(3);
        x.call(0);
        x.speak(true);
        due("29 another stage", x.live(), 2);
        due("29 nothing told", x.told(0), '-');
        due("29 nobody named", x.call(3), false);
        due("29 not the person 0 either", x.call(0), false);
        due("29 nobody speaks", x.speak(false), false);
        due("29 no breath to wait for", x.cue(0), 10);
        due("29 in place of one with a text under way", x.live(), 2);
        due("29 none is under way", x.tick(20), 0);
        x.voice(4, 20);
        x.live();
        due("29 nor the longest breath", x.cue(1), 10);
    }

    private static void p30Speak() {
        SaywhatSeen x = withFacts(1);
        fails("30 no stage", STATE, () -> x.speak(true));
        x.live();
        due("30 nobody", x.speak(true), false);
        due("30 somebody", x.speak(true), true);
        fails("30 no cue into speech", UNSUPPORTED, () -> x.cue(0));
        due("30 somebody still", x.speak(false), true);
        due("30 nobody again", x.speak(false), false);
        x.cue(0);
        x.tick(5);
        x.speak(false);
        due("30 nobody breaks nothing off", x.told(0), 'u');
        x.speak(true);
        due("30 broken off at once", x.told(0), 'l');
        x.tick(3);
        x.speak(false);
        due("30 cued again, as the breath went by in speech", x.cue(0), 10);
        due("30 from its beginning", x.tick(9), 0);
        due("30 to its end", x.tick(1), 1);
        x.speak(true);
        due("30 what is told stays told", x.told(0), 't');
    }

    private static void p31Call() {
        SaywhatSeen x = new SaywhatSeen();
        fails("31 no stage", STATE, () -> x.call(10));
        x.live();
        due("31 not yet", x.call(0), false);
        due("31 named", x.call(0), true);
        due("31 the last person", x.call(9), false);
        fails("31 below", ARGUMENT, () -> x.call(-1));
        fails("31 beyond", ARGUMENT, () -> x.call(10));
    }

    private static void p32Cue() {
        SaywhatSeen x = withFacts(3);
        x.version(0, 40);
        x.names(1, 5);
        x.named(5, 0);
        fails("32 no stage", STATE, () -> x.cue(9));
        x.live();
        fails("32 no fact", INDEX, () -> x.cue(9));
        fails("32 below", INDEX, () -> x.cue(-1));
        x.fact(0, 600, 5, 0, true);
        fails("32 no text", UNSUPPORTED, () -> x.cue(3));
        due("32 the first version", x.cue(0), 10);
        fails("32 one is under way", UNSUPPORTED, () -> x.cue(2));
        fails("32 the same one", UNSUPPORTED, () -> x.cue(0));
        x.voice(9, 3);
        due("32 as many ticks as it took then", x.tick(9), 0);
        due("32 to its end", x.tick(1), 1);
        x.tick(2);
        fails("32 no breath yet", UNSUPPORTED, () -> x.cue(2));
        x.tick(1);
        fails("32 told", UNSUPPORTED, () -> x.cue(0));
        fails("32 not named on the stage", UNSUPPORTED, () -> x.cue(1));
        x.call(5);
        x.names(1, 0);
        fails("32 the person 0 is not named", UNSUPPORTED, () -> x.cue(1));
        x.names(1, 5);
        due("32 named", x.cue(1), 5);
        x.tick(10);
        x.voice(4, 6);
        fails("32 the breath of now", UNSUPPORTED, () -> x.cue(2));
        x.voice(4, 5);
        due("32 a shorter one", x.cue(2), 10);
        SaywhatSeen none = withFacts(2);
        none.voice(4, 0);
        none.live();
        none.cue(0);
        none.tick(10);
        due("32 without a breath", none.cue(1), 10);
    }

    private static void p33Tick() {
        SaywhatSeen x = withFacts(2);
        fails("33 no stage", STATE, () -> x.tick(0));
        x.live();
        fails("33 none", ARGUMENT, () -> x.tick(0));
        fails("33 below", ARGUMENT, () -> x.tick(LOW));
        fails("33 beyond", ARGUMENT, () -> x.tick(201));
        due("33 nothing under way", x.tick(200), 0);
        x.cue(0);
        due("33 not yet", x.tick(9), 0);
        due("33 one", x.tick(2), 1);
        due("33 none any more", x.tick(1), 0);
        fails("33 a breath from the tick of its end", UNSUPPORTED, () -> x.cue(1));
        x.tick(1);
        due("33 went by", x.cue(1), 10);
        due("33 one by all", x.tick(200), 1);
    }

    private static void p34Told() {
        SaywhatSeen x = withFacts(2);
        fails("34 no stage", STATE, () -> x.told(9));
        x.live();
        fails("34 no fact", INDEX, () -> x.told(2));
        fails("34 below", INDEX, () -> x.told(-1));
        due("34 nothing", x.told(0), '-');
        x.cue(0);
        due("34 under way", x.told(0), 'u');
        x.speak(true);
        due("34 lost", x.told(0), 'l');
        x.speak(false);
        x.tick(3);
        x.cue(0);
        due("34 under way again", x.told(0), 'u');
        x.tick(10);
        due("34 told", x.told(0), 't');
        due("34 the other one", x.told(1), '-');
    }

    private static void p35Mark() {
        SaywhatSeen x = withFacts(2);
        due("35 none", x.mark(0, 0, 0), -1);
        due("35 the last one counts", x.mark(0, 0, 10), 0);
        due("35 before", x.mark(0, 0, 5), 10);
        due("35 the last listener", x.mark(0, 5, 5), -1);
        due("35 another fact", x.mark(1, 0, 5), -1);
        fails("35 listener below", ARGUMENT, () -> x.mark(0, -1, 5));
        fails("35 listener beyond", ARGUMENT, () -> x.mark(0, 6, 5));
        fails("35 mark below", ARGUMENT, () -> x.mark(0, 0, -1));
        fails("35 mark beyond", ARGUMENT, () -> x.mark(0, 0, 11));
        fails("35 no fact", INDEX, () -> x.mark(2, 6, 5));
        fails("35 fact below", INDEX, () -> x.mark(-1, 0, 5));
        due("35 nothing changed", x.mark(0, 0, 5), 5);
        x.live();
        due("35 a stage changes none", x.mark(0, 0, 5), 5);
    }

    private static void p36Review() {
        SaywhatSeen x = withFacts(2);
        fails("36 none", ELEMENT, () -> x.review(0));
        x.mark(0, 0, 10);
        x.mark(0, 1, 0);
        x.mark(0, 0, 9);
        x.mark(1, 2, 5);
        fails("36 two", ELEMENT, () -> x.review(0));
        x.mark(0, 5, 9);
        due("36 one of like greatest goes", x.review(0), 900);
        x.mark(0, 2, 0);
        due("36 of four", x.review(0), 450);
        x.mark(0, 3, 1);
        due("36 cut", x.review(0), 333);
        x.mark(0, 4, 10);
        due("36 of six", x.review(0), 475);
        x.mark(1, 0, 5);
        x.mark(0, 5, 1);
        fails("36 two of the next fact", ELEMENT, () -> x.review(1));
        fails("36 no fact", INDEX, () -> x.review(2));
        fails("36 below", INDEX, () -> x.review(-1));
        SaywhatSeen like = withFacts(1);
        for (int listener = 0; listener < 3; listener++) {
            like.mark(0, listener, 0);
        }
        due("36 all of the least", like.review(0), 0);
        for (int listener = 0; listener < 6; listener++) {
            like.mark(0, listener, 10);
        }
        due("36 all of the greatest", like.review(0), 1000);
    }

    private static void p37Checksum() {
        SaywhatSeen x = new SaywhatSeen();
        due("37 at first", x.checksum(), 817L);
        x.sound('s', 30, 40);
        x.sound('g', 10, 20);
        x.fact(1, 2, 3, 4, true);
        x.fact(5, 60, 7, 8, true);
        x.fact(5, 70, 7, 8, true);
        x.drop(0);
        due("37 sounds, facts, ticks", x.checksum(), sums(30, 40, 10, 20, 1, 60, 2, 70, 600));
        x.version(1, 4);
        x.names(1, 4);
        due("37 nothing else", x.checksum(), sums(30, 40, 10, 20, 1, 60, 2, 70, 600));
        SaywhatSeen full = new SaywhatSeen();
        long[] numbers = new long[61];
        for (int i = 0; i < 30; i++) {
            full.sound('n', i, 600 - i);
            numbers[2 * i] = i;
            numbers[2 * i + 1] = 600 - i;
        }
        numbers[60] = 600;
        due("37 wraps around", full.checksum(), sums(numbers));
    }

    private static void p38IsSound() {
        SaywhatSeen x = withFacts(10);
        due("38 without a plan", x.isSound(), true);
        x.plan();
        due("38 all told", x.isSound(), true);
        x.film(900);
        SaywhatSeen tight = new SaywhatSeen();
        for (int i = 0; i < 10; i++) {
            tight.fact(5 * i, 5 * i + 40, 10 + i * 7 % 10, 5, i % 2 == 0);
            tight.version(i, 4 + i % 3);
            tight.version(i, 8 + i % 3);
            tight.thing(i, i % 4, i % 3);
        }
        tight.sound('s', 15, 22);
        tight.sound('g', 40, 60);
        tight.plan();
        due("38 some told", tight.isSound(), true);
        due("38 the plan stays", tight.weight() + tight.loss() > tight.weight(), true);
        due("38 with music only", manyGaps().isSound(), true);
        SaywhatSeen empty = new SaywhatSeen();
        empty.plan();
        due("38 an empty plan", empty.isSound(), true);
    }
}
