/** The edges that the promises 25 to 28 name, a test for each; the comments are the document's words. */
public final class RecutsEdgesTest extends Edges {
    public static void main(String[] args) throws IllegalAccessException {
        Checks.runAll(RecutsEdgesTest.class);
    }

    private static SaywhatSeen withSound(int from, int to) {
        SaywhatSeen x = ofTicks(100);
        x.sound('s', from, to);
        return x;
    }

    /** A film of 100 ticks with a fact, and with a person named at a tick. */
    private static SaywhatSeen withFact(int from, int by) {
        SaywhatSeen x = ofTicks(100);
        x.fact(from, by, 1, 0, true);
        x.version(0, 1);
        return x;
    }

    private static SaywhatSeen withName(int tick) {
        SaywhatSeen x = ofTicks(100);
        x.named(0, tick);
        x.named(9, tick);
        return x;
    }

    /** The ticks of the film, by a call that leaves them as they are found. */
    private static int ticksOf(SaywhatSeen x) {
        int ticks = x.film(900);
        x.film(ticks);
        return ticks;
    }

    // ---- promise 25: cut, what it takes

    /** "from: the first one", at both ends of the film */
    static void p25FirstAndLastTick() {
        SaywhatSeen x = ofTicks(100);
        due("cut(0, 1)", x.cut(0, 1), 0);
        due("ticks then", ticksOf(x), 99);
        due("cut(98, 1)", x.cut(98, 1), 0);
        due("ticks then", ticksOf(x), 98);
    }

    /** "IllegalArgumentException if they are not within the film" */
    static void p25NotWithinTheFilm() {
        for (int ticks : new int[] {2, 600, 900}) {
            Worlds.Made world = () -> ofTicks(ticks);
            refused(world, "from the end of " + ticks, ARGUMENT, x -> x.cut(ticks, 1));
            refused(world, "over the end of " + ticks, ARGUMENT, x -> x.cut(ticks - 1, 2));
            due("up to the end of " + ticks, world.anew().cut(ticks - 1, 1), 0);
        }
        for (int from : new int[] {-1, 900, LOW, HIGH}) {
            refused("from " + from, ARGUMENT, x -> x.cut(from, 1));
            refused("two from " + from, ARGUMENT, x -> x.cut(from, 2));
        }
        for (int many : new int[] {900, HIGH, HIGH - 1}) {
            refused(many + " from 1", ARGUMENT, x -> x.cut(1, many));
            refused(many + " from HIGH", ARGUMENT, x -> x.cut(HIGH, many));
            refused(many + " from -1", ARGUMENT, x -> x.cut(-1, many));
        }
    }

    /** "or are none" */
    static void p25None() {
        for (int many : new int[] {0, -1, LOW}) {
            refused(many + " from 0", ARGUMENT, x -> x.cut(0, many));
            refused(many + " from 5", ARGUMENT, x -> x.cut(5, many));
            refused(many + " from the end", ARGUMENT, x -> x.cut(300, many));
        }
    }

    /** "or all" */
    static void p25All() {
        for (int ticks : new int[] {1, 600, 900}) {
            refused(() -> ofTicks(ticks), "all of " + ticks, ARGUMENT, x -> x.cut(0, ticks));
        }
        refused(Worlds::busy, "all of 300", ARGUMENT, x -> x.cut(0, 300));
        refused(Worlds::full, "all of 900", ARGUMENT, x -> x.cut(0, 900));
    }

    /** "or all": all but one is not all. */
    static void p25AllButOne() {
        for (int ticks : new int[] {2, 600, 900}) {
            for (int from = 0; from < 2; from++) {
                SaywhatSeen x = ofTicks(ticks);
                due("all but one of " + ticks, x.cut(from, ticks - 1), 0);
                due("a tick is left", ticksOf(x), 1);
                fails("which is all", ARGUMENT, () -> x.cut(0, 1));
            }
        }
    }

    /** "Returns how many facts are gone.": none, all */
    static void p25HowManyAreGone() {
        due("none of none", new SaywhatSeen().cut(0, 599), 0);
        due("none of ten", withTexts(10).cut(1, 599), 0);
        due("all ten", withTexts(10).cut(0, 1), 10);
        due("all ten, all but a tick", withTexts(10).cut(0, 599), 10);
        SaywhatSeen x = new SaywhatSeen();
        for (int i = 0; i < 10; i++) {
            x.fact(10 * i, 600, 1, 0, true);
        }
        due("those seen from 30 to 49", x.cut(30, 20), 2);
        due("their numbers are free", x.fact(0, 1, 1, 0, true), 3);
        due("both", x.fact(0, 1, 1, 0, true), 4);
        fails("and no more", STATE, () -> x.fact(0, 1, 1, 0, true));
    }

    // ---- promise 25: cut, what becomes of what is there; the ticks 40 to 49 are cut from 100

    private static void soundThen(int from, int to, int fromThen, int toThen) {
        for (char kind : new char[] {'s', 'g', 'n'}) {
            SaywhatSeen x = ofTicks(100);
            x.sound(kind, from, to);
            String sound = kind + " from " + from + " to " + to;
            due("facts gone with " + sound, x.cut(40, 10), 0);
            due(sound, x.checksum(), sums(fromThen, toThen, 90));
            due("ticks without " + sound, ticksInGaps(x, true), 90 - toThen + fromThen);
            due("but for music, " + sound, ticksInGaps(x, false), kind == 'g' ? 90 : 90 - toThen + fromThen);
        }
    }

    private static int ticksInGaps(SaywhatSeen x, boolean isSilent) {
        int ticks = 0;
        for (int i = 0; i < x.gaps(isSilent); i++) {
            ticks += x.gapAt(isSilent, i, false) - x.gapAt(isSilent, i, true);
        }
        return ticks;
    }

    /** "what is behind them comes earlier by as many": sounds ahead of the cut stay as they are. */
    static void p25SoundsAhead() {
        soundThen(0, 1, 0, 1);
        soundThen(10, 39, 10, 39);
        soundThen(10, 40, 10, 40);
        soundThen(39, 40, 39, 40);
    }

    /** "what is behind them comes earlier by as many" */
    static void p25SoundsBehind() {
        soundThen(50, 51, 40, 41);
        soundThen(50, 100, 40, 90);
        soundThen(51, 60, 41, 50);
        soundThen(99, 100, 89, 90);
    }

    /** "sounds lose the ticks that are gone" */
    static void p25SoundsLoseTicks() {
        soundThen(10, 41, 10, 40);
        soundThen(39, 50, 39, 40);
        soundThen(39, 51, 39, 41);
        soundThen(40, 51, 40, 41);
        soundThen(49, 51, 40, 41);
        soundThen(49, 100, 40, 90);
        soundThen(0, 100, 0, 90);
    }

    /** "and are gone without any left" */
    static void p25SoundsWithoutATickAreGone() {
        for (int[] sound : new int[][] {{40, 50}, {40, 41}, {49, 50}, {41, 49}}) {
            SaywhatSeen x = withSound(sound[0], sound[1]);
            x.cut(40, 10);
            due("sounds of " + sound[0] + " to " + sound[1], x.sounds(), 0);
            due("checksum", x.checksum(), sums(90));
        }
    }

    /** All 30 sounds can be gone, or those of them that have no ticks left, in their order. */
    static void p25ThirtySounds() {
        SaywhatSeen all = withSounds(30);
        all.cut(0, 60);
        due("all are gone", all.sounds(), 0);
        SaywhatSeen x = withSounds(30);
        x.cut(2, 56);
        due("the first one and the last one stay", x.sounds(), 2);
        due("as they were", x.checksum(), sums(0, 1, 2, 3, 544));
        due("the last one goes by unsound", x.unsound(), 1);
        due("the first one is left", x.checksum(), sums(0, 1, 544));
    }

    /** "facts that are seen in what is gone are gone" */
    static void p25FactsSeenInIt() {
        for (int from : new int[] {40, 45, 49}) {
            SaywhatSeen x = withFact(from, 100);
            due("seen from " + from, x.cut(40, 10), 1);
            fails("it is gone", INDEX, () -> x.ticks(0, 0));
        }
        for (int from : new int[] {0, 39, 50, 99}) {
            SaywhatSeen x = withFact(from, 100);
            due("seen from " + from, x.cut(40, 10), 0);
            due("it is there", x.ticks(0, 0), 3);
        }
    }

    /** Ticks from which facts are seen: those ahead stay, those behind come earlier. */
    static void p25SeenThen() {
        int[][] ticks = {{0, 0}, {39, 39}, {50, 40}, {51, 41}, {90, 80}};
        for (int[] tick : ticks) {
            SaywhatSeen x = withFact(tick[0], 100);
            x.cut(40, 10);
            due("seen from " + tick[0], x.firstStart(0, 0, 0), tick[1]);
        }
    }

    /** "a tick by which something is told ... that is in what is gone, becomes the first one of it" */
    static void p25ToldByThen() {
        int[][] ticks = {{1, 1}, {39, 39}, {40, 40}, {41, 40}, {49, 40}, {50, 40}, {51, 41}, {100, 90}};
        for (int[] tick : ticks) {
            SaywhatSeen x = withFact(0, tick[0]);
            x.cut(40, 10);
            due("told by " + tick[0], x.checksum(), sums(0, tick[1], 90));
        }
    }

    /** "or at which a person is named, that is in what is gone, becomes the first one of it" */
    static void p25NamedThen() {
        int[][] ticks = {{-1, -1}, {0, 0}, {39, 39}, {40, 40}, {41, 40}, {49, 40}, {50, 40}, {51, 41}, {99, 89}};
        for (int[] tick : ticks) {
            SaywhatSeen x = withName(tick[0]);
            x.cut(40, 10);
            due("person 0 named at " + tick[0], x.named(0, 0), tick[1]);
            due("person 9 named at " + tick[0], x.named(9, 0), tick[1]);
        }
    }

    /** "even if the film ends there" */
    static void p25EvenIfTheFilmEndsThere() {
        for (int tick : new int[] {90, 95, 99}) {
            SaywhatSeen x = withName(tick);
            x.fact(0, tick, 1, 0, true);
            x.fact(0, 100, 1, 0, true);
            x.cut(90, 10);
            due("told by then", x.checksum(), sums(0, 90, 1, 90, 90));
            due("named at " + tick, x.named(0, 0), 90);
            fails("a tick that cannot be told", ARGUMENT, () -> x.named(0, 90));
        }
    }

    /** A cut from 0 on: what is in it comes to 0, or is gone. */
    static void p25FromTheFirstTick() {
        SaywhatSeen x = withName(5);
        x.sound('s', 0, 10);
        x.sound('s', 0, 11);
        x.fact(10, 20, 1, 0, true);
        due("facts gone", x.cut(0, 10), 0);
        due("sounds, facts, ticks", x.checksum(), sums(0, 1, 0, 10, 90));
        due("named", x.named(0, 1), 0);
        x.version(0, 1);
        due("seen from 0", x.firstStart(0, 0, 0), 1);
    }

    /** "their numbers staying free", "those of numbers that are not there are gone" */
    static void p25MarksAndStageOfThoseGone() {
        SaywhatSeen x = withTexts(1);
        x.fact(300, 600, 5, 0, true);
        x.version(1, 4);
        x.live();
        x.cue(1);
        x.tick(13);
        x.cue(0);
        x.tick(1);
        x.mark(0, 0, 6);
        x.mark(1, 0, 7);
        due("those that stay", x.cut(1, 1), 0);
        due("the text goes on", x.told(0), 'u');
        due("the marks stay", x.mark(0, 0, 6) + x.mark(1, 0, 7), 13);
        due("the one under way", x.cut(0, 1), 1);
        due("what is told stays", x.told(1), 't');
        due("the mark stays", x.mark(1, 0, 7), 7);
        x.fact(0, 5, 5, 0, true);
        x.version(0, 4);
        due("not lost", x.told(0), '-');
        due("no mark", x.mark(0, 0, 0), -1);
        x.tick(2);
        fails("a tick of the breath is missing", UNSUPPORTED, () -> x.cue(0));
        due("nothing ends", x.tick(1), 0);
        due("the breath went by", x.cue(0), 10);
    }

    // ---- promise 26: insert, what it takes

    /** "at: the tick ahead of which, at most the ticks of the film" */
    static void p26FirstAndLastTick() {
        for (int ticks : new int[] {1, 600, 899}) {
            due("ahead of all of " + ticks, ofTicks(ticks).insert(0, 1), ticks + 1);
            due("behind all of " + ticks, ofTicks(ticks).insert(ticks, 1), ticks + 1);
            due("ahead of the last one of " + ticks, ofTicks(ticks).insert(ticks - 1, 1), ticks + 1);
        }
    }

    /** "IllegalArgumentException if there is no such tick" */
    static void p26NoSuchTick() {
        for (int ticks : new int[] {1, 600, 899}) {
            refused(() -> ofTicks(ticks), "beyond " + ticks, ARGUMENT, x -> x.insert(ticks + 1, 1));
        }
        for (int at : new int[] {-1, 901, LOW, HIGH}) {
            refused("at " + at, ARGUMENT, x -> x.insert(at, 1));
            refused("none at " + at, ARGUMENT, x -> x.insert(at, 0));
        }
    }

    /** "many: how many, 1 or more", "or none are inserted" */
    static void p26None() {
        for (int many : new int[] {0, -1, LOW}) {
            refused(many + " at 0", ARGUMENT, x -> x.insert(0, many));
            refused(many + " at 300", ARGUMENT, x -> x.insert(300, many));
        }
    }

    /** "or it would have more than 900" */
    static void p26MoreThan900() {
        for (int ticks : new int[] {1, 600, 899}) {
            due("up to 900 of " + ticks, ofTicks(ticks).insert(ticks, 900 - ticks), 900);
            refused(() -> ofTicks(ticks), "901 of " + ticks, ARGUMENT, x -> x.insert(ticks, 901 - ticks));
            refused(() -> ofTicks(ticks), "many more", ARGUMENT, x -> x.insert(0, HIGH));
        }
        refused(Worlds::full, "one into 900", ARGUMENT, x -> x.insert(0, 1));
        refused(() -> ofTicks(900), "one behind 900", ARGUMENT, x -> x.insert(900, 1));
        refused("900", ARGUMENT, x -> x.insert(0, 900));
        refused("HIGH", ARGUMENT, x -> x.insert(0, HIGH));
        refused("HIGH - 1 at 1", ARGUMENT, x -> x.insert(1, HIGH - 1));
    }

    /** "Returns how many ticks the film has." */
    static void p26HowManyTicks() {
        SaywhatSeen x = ofTicks(1);
        for (int ticks = 2; ticks <= 30; ticks++) {
            due("insert(1, 1)", x.insert(1, 1), ticks);
        }
        due("the film before", x.film(900), 30);
    }

    // ---- promise 26: insert, what becomes of what is there; 7 ticks come in ahead of the tick 40 of 100

    private static void soundLater(int from, int to, int fromThen, int toThen) {
        for (char kind : new char[] {'s', 'g', 'n'}) {
            SaywhatSeen x = ofTicks(100);
            x.sound(kind, from, to);
            String sound = kind + " from " + from + " to " + to;
            due("ticks with " + sound, x.insert(40, 7), 107);
            due(sound, x.checksum(), sums(fromThen, toThen, 107));
            due("ticks without " + sound, ticksInGaps(x, true), 107 - toThen + fromThen);
            due("but for music, " + sound, ticksInGaps(x, false), kind == 'g' ? 107 : 107 - toThen + fromThen);
        }
    }

    /** Sounds that end there, or ahead of it, stay as they are. */
    static void p26SoundsAhead() {
        soundLater(0, 1, 0, 1);
        soundLater(10, 39, 10, 39);
        soundLater(10, 40, 10, 40);
        soundLater(39, 40, 39, 40);
    }

    /** "sounds that go on over it are longer by as many" */
    static void p26SoundsOverIt() {
        soundLater(0, 41, 0, 48);
        soundLater(39, 41, 39, 48);
        soundLater(39, 100, 39, 107);
        soundLater(0, 100, 0, 107);
    }

    /** "what begins there or behind comes later" */
    static void p26SoundsBehind() {
        soundLater(40, 41, 47, 48);
        soundLater(40, 100, 47, 107);
        soundLater(41, 42, 48, 49);
        soundLater(99, 100, 106, 107);
    }

    /** All 30 sounds of a film move, or none. */
    static void p26ThirtySounds() {
        SaywhatSeen x = withSounds(30);
        x.insert(0, 1);
        x.insert(60, 1);
        due("sounds", x.sounds(), 30);
        due("the first one begins", x.gapAt(true, 0, false), 1);
        due("the last one begins", x.gapAt(true, 29, false), 59);
        due("the last one ends", x.gapAt(true, 30, true), 60);
        due("the film ends", x.gapAt(true, 30, false), 602);
    }

    /** "what begins there or behind comes later": ticks from which facts are seen */
    static void p26SeenThen() {
        int[][] ticks = {{0, 0}, {39, 39}, {40, 47}, {41, 48}, {90, 97}};
        for (int[] tick : ticks) {
            SaywhatSeen x = withFact(tick[0], 100);
            x.insert(40, 7);
            due("seen from " + tick[0], x.firstStart(0, 0, 0), tick[1]);
        }
    }

    /** "ticks by which something is told ... likewise, those that are this tick too" */
    static void p26ToldByThen() {
        int[][] ticks = {{1, 1}, {39, 39}, {40, 47}, {41, 48}, {100, 107}};
        for (int[] tick : ticks) {
            SaywhatSeen x = withFact(0, tick[0]);
            x.insert(40, 7);
            due("told by " + tick[0], x.checksum(), sums(0, tick[1], 107));
        }
    }

    /** "or at which a person is named, likewise, those that are this tick too" */
    static void p26NamedThen() {
        int[][] ticks = {{-1, -1}, {0, 0}, {39, 39}, {40, 47}, {41, 48}, {99, 106}};
        for (int[] tick : ticks) {
            SaywhatSeen x = withName(tick[0]);
            x.insert(40, 7);
            due("person 0 named at " + tick[0], x.named(0, 0), tick[1]);
            due("person 9 named at " + tick[0], x.named(9, 0), tick[1]);
        }
    }

    /** Ahead of the tick 0: all comes later, but never stays never. */
    static void p26AheadOfAll() {
        SaywhatSeen x = withFact(0, 1);
        x.sound('s', 0, 1);
        x.named(0, 0);
        x.insert(0, 5);
        due("sounds, facts, ticks", x.checksum(), sums(5, 6, 0, 6, 105));
        due("named", x.named(0, -1), 5);
        due("never", x.named(1, -1), -1);
    }

    /** Behind the last tick: what is told by the end of the film is told by its end again. */
    static void p26BehindAll() {
        SaywhatSeen x = withFact(0, 100);
        x.fact(0, 99, 1, 0, true);
        x.sound('g', 0, 100);
        x.named(0, 99);
        x.insert(100, 5);
        due("sounds, facts, ticks", x.checksum(), sums(0, 100, 0, 105, 1, 99, 105));
        due("named", x.named(0, -1), 99);
        due("quiet behind", x.gapAt(true, 0, true), 100);
    }

    // ---- promise 27: edition

    /** "Returns its number, from 0.", "At most 4 editions are kept" */
    static void p27FourEditions() {
        SaywhatSeen x = new SaywhatSeen();
        for (int i = 0; i < 4; i++) {
            due("edition " + i, x.edition(), i);
        }
    }

    /** "IllegalStateException if there are 4" */
    static void p27NoEdition5() {
        refused(Worlds::full, "edition 5", STATE, x -> x.edition());
        Worlds.Made used = () -> {
            SaywhatSeen x = withTexts(2);
            for (int i = 0; i < 4; i++) {
                x.edition();
            }
            x.use(3);
            x.drop(0);
            return x;
        };
        refused(used, "edition 5, as one is used", STATE, x -> x.edition());
    }

    /** An edition of an empty film, and one of a full film. */
    static void p27EmptyAndFull() {
        SaywhatSeen x = new SaywhatSeen();
        due("the empty one", x.edition(), 0);
        SaywhatSeen full = Worlds.full();
        long before = full.checksum();
        due("its facts", full.use(3), 10);
        due("its sounds", full.sounds(), 30);
        due("its sum", full.checksum(), before);
        x.fact(0, 600, 1, 0, true);
        x.sound('s', 0, 600);
        x.named(3, 3);
        x.film(900);
        due("no facts again", x.use(0), 0);
        due("all as at first", x.checksum(), 817L);
        due("nobody named", x.named(3, 0), -1);
    }

    // ---- promise 28: use

    /** "IndexOutOfBoundsException if there is no such edition" */
    static void p28NoSuchEdition() {
        for (int edition : new int[] {-1, 4, LOW, HIGH}) {
            refused("edition " + edition, INDEX, x -> x.use(edition));
        }
        refused(SaywhatSeen::new, "edition 0 of none", INDEX, x -> x.use(0));
        refused(Worlds::busy, "edition 2 of two", INDEX, x -> x.use(2));
        refused(Worlds::busy, "edition 3 of two", INDEX, x -> x.use(3));
    }

    /** "Returns how many facts it has.": of the first edition up to the last one */
    static void p28FirstAndLastEdition() {
        SaywhatSeen x = new SaywhatSeen();
        for (int i = 0; i < 4; i++) {
            x.edition();
            x.fact(i, 600, 1, 0, true);
        }
        for (int i = 3; i >= 0; i--) {
            due("facts of edition " + i, x.use(i), i);
            due("the next number", x.fact(0, 1, 1, 0, true), i);
        }
        due("one that is longer than the film of now", x.use(3), 3);
    }

    /** "the ticks of the film, its sounds, names and facts, with their versions" */
    static void p28AllThatIsKept() {
        SaywhatSeen x = ofTicks(900);
        x.sound('g', 899, 900);
        x.named(0, 0);
        x.named(9, 899);
        x.fact(800, 900, 99, 60, false);
        x.version(0, 1);
        x.version(0, 2);
        x.version(0, 80);
        x.names(0, 9);
        x.thing(0, 9, 9);
        x.fact(0, 900, 1, 0, true);
        x.version(1, 1);
        x.thing(1, 9, 8);
        x.edition();
        x.named(0, -1);
        x.named(9, -1);
        x.named(5, 5);
        x.cut(0, 899);
        due("facts", x.use(0), 2);
        due("sounds, facts, ticks", x.checksum(), sums(899, 900, 0, 900, 1, 900, 900));
        due("the kind of the sound", x.gaps(false) + x.gapAt(true, 0, false), 900);
        due("the versions", x.ticks(0, 0) + x.ticks(0, 1) + x.ticks(0, 2), 3 + 5 + 200);
        due("the first person", x.named(0, -1), 0);
        due("never", x.named(5, -1), -1);
        due("the last person", x.named(9, 0), 899);
        due("unlike terms", x.canTell(3), false);
        due("the thing of fact 1", x.thing(1, 9, 9), 9);
        due("the term of fact 0", x.canTell(3), true);
        x.named(9, -1);
        due("the person that fact 0 names", x.canTell(1), false);
        due("whom it named", x.names(0, -1), 9);
        due("how far ahead", x.firstStart(0, 0, 0), 740);
        due("not over music", x.canStart(0, 0, 897), false);
        due("the other one over music", x.canStart(1, 0, 897), true);
        due("the facts told", x.plan(), 2);
        due("the weights", x.weight(), 100);
    }

    /** The same for terms: each fact has its own again. */
    static void p28TermsAreKept() {
        SaywhatSeen x = withTexts(2);
        x.thing(0, 0, 9);
        x.thing(1, 0, 8);
        x.edition();
        x.thing(1, 0, 9);
        x.edition();
        due("like terms", x.canTell(3), true);
        x.use(0);
        due("unlike terms again", x.canTell(3), false);
        x.thing(0, 0, 8);
        due("the term of fact 1 again", x.canTell(3), true);
        x.use(1);
        due("like terms again", x.canTell(3), true);
        x.thing(0, 0, 8);
        due("the other term of fact 1", x.canTell(3), false);
    }

    /** An edition is as it was when it was kept, how often it is used, and whatever becomes of the film. */
    static void p28UsedOverAndOver() {
        SaywhatSeen x = withTexts(2);
        x.sound('s', 0, 9);
        x.sound('s', 20, 29);
        x.edition();
        long before = x.checksum();
        for (int i = 0; i < 5; i++) {
            x.version(0, 5 + i);
            x.names(0, 1);
            x.thing(0, 1, 1);
            x.named(1, 5);
            x.cut(1, 3);
            x.insert(2, 7);
            x.unsound();
            x.drop(1);
            due("facts", x.use(0), 2);
            due("sum", x.checksum(), before);
            fails("the version told behind", ELEMENT, () -> x.ticks(0, 1));
            due("the person told behind", x.names(0, -1), -1);
            due("the thing told behind", x.thing(0, -1, 0), -1);
            due("the name told behind", x.named(1, -1), -1);
        }
    }

    /** The voice, the number of editions and who speaks on the stage are no part of an edition. */
    static void p28WhatIsNotKept() {
        SaywhatSeen x = withTexts(2);
        x.edition();
        x.voice(9, 20);
        x.live();
        x.call(4);
        x.speak(true);
        x.use(0);
        due("the speaker", x.speak(false), true);
        due("who is named on the stage", x.call(4), true);
        due("the speed", x.voice(9, 20), 9);
        x.plan();
        due("the breath", x.start(0), 25);
        due("the next edition", x.edition(), 1);
    }

    /** "as an edition is used ... those of numbers that are not there are gone" */
    static void p28MarksAndStageOfThoseGone() {
        SaywhatSeen x = new SaywhatSeen();
        x.fact(0, 600, 1, 0, true);
        x.version(0, 4);
        x.edition();
        for (int i = 1; i < 10; i++) {
            x.fact(0, 600, 1, 0, true);
            x.version(i, 4);
        }
        x.edition();
        x.live();
        for (int i = 0; i < 10; i++) {
            x.mark(i, 5, i);
        }
        x.cue(0);
        x.tick(13);
        x.cue(9);
        x.tick(13);
        x.use(1);
        due("the same numbers, told", x.told(9), 't');
        due("the same numbers, marked", x.mark(9, 5, 9), 9);
        x.use(0);
        x.use(1);
        due("the one that stayed", x.told(0), 't');
        due("its mark", x.mark(0, 5, 0), 0);
        due("one that was away", x.told(9), '-');
        for (int i = 1; i < 10; i++) {
            due("the mark of fact " + i, x.mark(i, 5, 0), -1);
        }
    }

    /** "and a text under way of such a one is broken off, but not lost" */
    static void p28UnderWay() {
        SaywhatSeen x = withTexts(1);
        x.edition();
        x.fact(0, 600, 1, 0, true);
        x.version(1, 4);
        x.edition();
        x.live();
        x.cue(1);
        x.tick(4);
        x.use(1);
        due("its number is there", x.told(1), 'u');
        x.tick(1);
        x.use(0);
        fails("the breath begins then", UNSUPPORTED, () -> x.cue(0));
        due("nothing ends", x.tick(2), 0);
        fails("a tick is missing", UNSUPPORTED, () -> x.cue(0));
        due("nothing ends", x.tick(1), 0);
        x.use(1);
        due("not lost", x.told(1), '-');
        due("the breath went by", x.cue(1), 10);
    }
}
