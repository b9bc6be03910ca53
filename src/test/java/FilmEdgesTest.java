/** The edges that the promises 1 to 9 name, a test for each; the comments are the document's words. */
public final class FilmEdgesTest extends Edges {
    private static final char[] KINDS = {'s', 'g', 'n'};

    public static void main(String[] args) throws IllegalAccessException {
        Checks.runAll(FilmEdgesTest.class);
    }

    // ---- promise 1: a new object

    /** "Creates a film of 600 ticks" */
    static void p01FilmOf600Ticks() {
        due("film(600)", new SaywhatSeen().film(600), 600);
        due("the end of the gap", new SaywhatSeen().gapAt(true, 0, false), 600);
        due("sound('s', 599, 600)", new SaywhatSeen().sound('s', 599, 600), 1);
        refused(SaywhatSeen::new, "sound('s', 599, 601)", ARGUMENT, x -> x.sound('s', 599, 601));
        due("fact by 600", new SaywhatSeen().fact(599, 600, 1, 0, true), 0);
        refused(SaywhatSeen::new, "fact by 601", ARGUMENT, x -> x.fact(599, 601, 1, 0, true));
    }

    /** "without sounds" */
    static void p01WithoutSounds() {
        due("sounds()", new SaywhatSeen().sounds(), 0);
        refused(SaywhatSeen::new, "unsound()", ELEMENT, x -> x.unsound());
        due("gaps(false)", new SaywhatSeen().gaps(false), 1);
        due("gaps(true)", new SaywhatSeen().gaps(true), 1);
        due("the gap begins", new SaywhatSeen().gapAt(true, 0, true), 0);
    }

    /** "and facts" */
    static void p01WithoutFacts() {
        for (int f = 0; f < 10; f++) {
            int fact = f;
            refused(SaywhatSeen::new, "drop(" + f + ")", INDEX, x -> x.drop(fact));
        }
        due("canTell(0)", new SaywhatSeen().canTell(0), true);
        refused(SaywhatSeen::new, "canTell(1)", ARGUMENT, x -> x.canTell(1));
        due("plan()", new SaywhatSeen().plan(), 0);
        due("live()", new SaywhatSeen().live(), 0);
        due("the first number", new SaywhatSeen().fact(0, 1, 1, 0, true), 0);
    }

    /** "The voice has a speed, 2 to 9 syllables in 10 ticks, 4 at first, and a breath, 0 to 20 ticks, 3 at first." */
    static void p01VoiceAtFirst() {
        due("the speed", new SaywhatSeen().voice(2, 0), 4);
        SaywhatSeen x = withTexts(2);
        due("ticks of 4 syllables", x.ticks(0, 0), 10);
        x.plan();
        due("a breath of 3 behind 10 ticks", x.start(0), 13);
    }

    /** "the tick before, -1 for never" */
    static void p01NobodyIsNamed() {
        SaywhatSeen x = new SaywhatSeen();
        for (int person = 0; person < 10; person++) {
            due("named(" + person + ", 0)", x.named(person, 0), -1);
        }
    }

    /** "if there is no plan", "if no stage is live", "if there is no such edition" */
    static void p01NoPlanNoStageNoEdition() {
        refused(SaywhatSeen::new, "weight()", STATE, x -> x.weight());
        refused(SaywhatSeen::new, "tick(1)", STATE, x -> x.tick(1));
        refused(SaywhatSeen::new, "use(0)", INDEX, x -> x.use(0));
        due("checksum()", new SaywhatSeen().checksum(), 817L);
        due("isSound()", new SaywhatSeen().isSound(), true);
    }

    /** Nothing is shared: what becomes of one object is not seen in another one. */
    static void p01EachObjectIsItsOwn() {
        SaywhatSeen ahead = new SaywhatSeen();
        Worlds.full().film(900);
        due("one made ahead", Portrait.difference(Portrait.of(ahead), Portrait.of(new SaywhatSeen())), "");
    }

    // ---- promise 2: film

    /** "ticks: 1 to 900", the least */
    static void p02OneTick() {
        SaywhatSeen x = new SaywhatSeen();
        due("film(1)", x.film(1), 600);
        due("film(1) again", x.film(1), 1);
        due("its gap ends", x.gapAt(true, 0, false), 1);
        due("a sound in it", x.sound('s', 0, 1), 1);
        refused(() -> ofTicks(1), "a sound behind it", ARGUMENT, y -> y.sound('s', 1, 2));
    }

    /** "ticks: 1 to 900", the most */
    static void p02NineHundredTicks() {
        SaywhatSeen x = new SaywhatSeen();
        due("film(900)", x.film(900), 600);
        due("film(900) again", x.film(900), 900);
        due("its gap ends", x.gapAt(true, 0, false), 900);
        due("a sound at its end", x.sound('s', 899, 900), 1);
        refused(() -> ofTicks(900), "a sound behind it", ARGUMENT, y -> y.sound('s', 899, 901));
    }

    /** "IllegalArgumentException if a number is out of range", below */
    static void p02TooFewTicks() {
        refused("film(0)", ARGUMENT, x -> x.film(0));
        refused("film(-1)", ARGUMENT, x -> x.film(-1));
        refused("film(LOW)", ARGUMENT, x -> x.film(LOW));
    }

    /** "IllegalArgumentException if a number is out of range", above */
    static void p02TooManyTicks() {
        refused("film(901)", ARGUMENT, x -> x.film(901));
        refused("film(HIGH)", ARGUMENT, x -> x.film(HIGH));
    }

    /** "Returns how many before." */
    static void p02HowManyBefore() {
        SaywhatSeen x = new SaywhatSeen();
        int before = 600;
        for (int ticks : new int[] {2, 899, 899, 1, 900, 600}) {
            due("film(" + ticks + ")", x.film(ticks), before);
            before = ticks;
        }
    }

    /** "UnsupportedOperationException if a sound ... would go beyond it" */
    static void p02SoundWouldGoBeyond() {
        for (char kind : KINDS) {
            Worlds.Made world = () -> {
                SaywhatSeen x = new SaywhatSeen();
                x.sound(kind, 10, 50);
                return x;
            };
            refused(world, kind + ": film(49)", UNSUPPORTED, x -> x.film(49));
            refused(world, kind + ": film(1)", UNSUPPORTED, x -> x.film(1));
            due(kind + ": film(50)", world.anew().film(50), 600);
            due(kind + ": film(51)", world.anew().film(51), 600);
        }
    }

    /** The same for one of 30 sounds, be it the first one told or the last one. */
    static void p02OneOf30SoundsWouldGoBeyond() {
        for (int far : new int[] {0, 15, 29}) {
            Worlds.Made world = () -> {
                SaywhatSeen x = new SaywhatSeen();
                for (int i = 0; i < 30; i++) {
                    x.sound('n', i, i == far ? 200 : 100);
                }
                return x;
            };
            refused(world, far + ": film(199)", UNSUPPORTED, x -> x.film(199));
            due(far + ": film(200)", world.anew().film(200), 600);
        }
    }

    /** "UnsupportedOperationException if ... a fact would go beyond it" */
    static void p02FactWouldGoBeyond() {
        for (int far : new int[] {0, 5, 9}) {
            Worlds.Made world = () -> {
                SaywhatSeen x = new SaywhatSeen();
                for (int i = 0; i < 10; i++) {
                    x.fact(i, i == far ? 200 : 100, 1, 0, true);
                }
                return x;
            };
            refused(world, far + ": film(199)", UNSUPPORTED, x -> x.film(199));
            due(far + ": film(200)", world.anew().film(200), 600);
        }
    }

    /** A film that becomes longer, or is as long as it was, lets nothing go beyond it. */
    static void p02LongerIsNotBeyond() {
        due("film(900) of 900", Worlds.full().film(900), 900);
        due("film(301) of 300", Worlds.busy().film(301), 300);
        refused(Worlds::busy, "film(299)", UNSUPPORTED, x -> x.film(299));
    }

    /** "if a sound or a fact would": what was taken away, dropped, or is named alone does not. */
    static void p02WhatIsGoneHoldsNothing() {
        SaywhatSeen x = new SaywhatSeen();
        x.sound('s', 0, 600);
        x.unsound();
        x.fact(0, 600, 1, 0, true);
        x.drop(0);
        x.named(0, 599);
        due("film(1)", x.film(1), 600);
        due("the name stays", x.named(0, -1), 599);
    }

    /** "If several exceptions apply, the one that is documented first is thrown." */
    static void p02RangeAheadOfBeyond() {
        Worlds.Made world = () -> {
            SaywhatSeen x = new SaywhatSeen();
            x.sound('s', 0, 600);
            x.fact(0, 600, 1, 0, true);
            return x;
        };
        refused(world, "film(0)", ARGUMENT, x -> x.film(0));
        refused(world, "film(LOW)", ARGUMENT, x -> x.film(LOW));
        refused(world, "film(599)", UNSUPPORTED, x -> x.film(599));
    }

    // ---- promise 3: sound

    /** "kind: 's', 'g' or 'n'" */
    static void p03EachKind() {
        SaywhatSeen x = new SaywhatSeen();
        for (int i = 0; i < KINDS.length; i++) {
            due("a sound of kind " + KINDS[i], x.sound(KINDS[i], 0, 1), i + 1);
        }
    }

    /** "if there is no such kind" */
    static void p03NoSuchKind() {
        for (char kind : new char[] {'r', 't', 'f', 'h', 'm', 'o', 'S', 'G', 'N', ' ', 0, 255, 's' + 256, 65535}) {
            refused("a sound of kind " + (int) kind, ARGUMENT, x -> x.sound(kind, 0, 1));
        }
    }

    /** "from: the first tick", "or it is not within the film", ahead of it */
    static void p03FromIsWithinTheFilm() {
        due("from 0", new SaywhatSeen().sound('s', 0, 600), 1);
        refused("from -1", ARGUMENT, x -> x.sound('s', -1, 10));
        refused("from LOW", ARGUMENT, x -> x.sound('s', LOW, 10));
        refused("both ahead of the film", ARGUMENT, x -> x.sound('s', -5, -2));
        due("from the last tick", new SaywhatSeen().sound('s', 599, 600), 1);
        refused(SaywhatSeen::new, "from the end of the film", ARGUMENT, x -> x.sound('s', 600, 601));
    }

    /** "to: the one behind the last, greater" */
    static void p03ToIsGreater() {
        due("a sound of a tick", new SaywhatSeen().sound('s', 5, 6), 1);
        refused("a sound of none", ARGUMENT, x -> x.sound('s', 5, 5));
        refused("a sound of none at 0", ARGUMENT, x -> x.sound('s', 0, 0));
        refused("a sound of less", ARGUMENT, x -> x.sound('s', 5, 4));
        refused("to LOW", ARGUMENT, x -> x.sound('s', 5, LOW));
    }

    /** "or it is not within the film", behind it */
    static void p03ToIsWithinTheFilm() {
        for (int ticks : new int[] {1, 600, 900}) {
            due("to the end of " + ticks, ofTicks(ticks).sound('g', 0, ticks), 1);
            refused(() -> ofTicks(ticks), "beyond " + ticks, ARGUMENT, x -> x.sound('g', 0, ticks + 1));
            refused(() -> ofTicks(ticks), "behind " + ticks, ARGUMENT, x -> x.sound('g', ticks, ticks + 1));
        }
        refused("to HIGH", ARGUMENT, x -> x.sound('s', 0, HIGH));
        refused("from HIGH - 1 to HIGH", ARGUMENT, x -> x.sound('s', HIGH - 1, HIGH));
        refused("from HIGH to LOW", ARGUMENT, x -> x.sound('s', HIGH, LOW));
    }

    /** "Sounds, at most 30", "Returns how many sounds there are." */
    static void p03ThirtySounds() {
        SaywhatSeen x = new SaywhatSeen();
        for (int i = 1; i <= 30; i++) {
            due("sound " + i, x.sound('s', 0, 1), i);
        }
    }

    /** "IllegalStateException if there are 30" */
    static void p03NoSound31() {
        for (char kind : KINDS) {
            refused(Worlds::full, "sound 31", STATE, x -> x.sound(kind, 0, 1));
            refused(() -> withSounds(30), "sound 31", STATE, x -> x.sound(kind, 0, 1));
        }
        due("of 29", withSounds(29).sound('s', 0, 1), 30);
        SaywhatSeen x = withSounds(30);
        x.unsound();
        due("in place of one that was taken", x.sound('s', 0, 1), 30);
        x.cut(0, 1);
        due("in place of two that were cut", x.sound('s', 0, 1), 29);
    }

    /** "If several exceptions apply, the one that is documented first is thrown." */
    static void p03RangeAheadOfFull() {
        refused(() -> withSounds(30), "a kind", ARGUMENT, x -> x.sound('x', 0, 1));
        refused(() -> withSounds(30), "from", ARGUMENT, x -> x.sound('s', -1, 1));
        refused(() -> withSounds(30), "to", ARGUMENT, x -> x.sound('s', 0, 601));
        refused(() -> withSounds(30), "turned", ARGUMENT, x -> x.sound('s', 1, 1));
    }

    /** "are from a tick up to another one, that not counted" */
    static void p03FirstAndLastTick() {
        SaywhatSeen x = new SaywhatSeen();
        x.sound('s', 10, 20);
        due("quiet up to 10", x.gapAt(false, 0, false), 10);
        due("quiet from 20 on", x.gapAt(false, 1, true), 20);
    }

    /** "They may overlap." */
    static void p03TheyMayOverlap() {
        SaywhatSeen x = new SaywhatSeen();
        x.sound('s', 10, 20);
        due("the same once more", x.sound('s', 10, 20), 2);
        due("within", x.sound('n', 12, 13), 3);
        due("around", x.sound('g', 0, 600), 4);
        due("over an end", x.sound('s', 19, 21), 5);
        due("quiet from 21 on", x.gapAt(false, 1, true), 21);
    }

    // ---- promise 4: sounds

    /** "Returns how many sounds there are." */
    static void p04NoneToThirty() {
        for (int many = 0; many <= 30; many++) {
            due("sounds of " + many, withSounds(many).sounds(), many);
        }
    }

    /** The refused one is not counted; those that a cut takes are not any more. */
    static void p04RefusedAndGone() {
        SaywhatSeen x = withSounds(30);
        fails("sound 31", STATE, () -> x.sound('s', 0, 1));
        due("sounds of 30", x.sounds(), 30);
        x.cut(0, 3);
        due("two are cut", x.sounds(), 28);
        x.cut(0, 597 - 1);
        due("all are cut", x.sounds(), 0);
    }

    // ---- promise 5: unsound

    /** "Takes the last sound away.", "Returns how many are left." */
    static void p05FromThirtyToNone() {
        SaywhatSeen x = withSounds(30);
        for (int left = 29; left >= 0; left--) {
            int last = Math.max(left - 1, 0);
            due("unsound()", x.unsound(), left);
            due("the last gap begins", x.gapAt(true, last, true), left == 0 ? 0 : 2 * left - 1);
            due("the last gap ends", x.gapAt(true, last, false), 600);
        }
    }

    /** "NoSuchElementException if there is none" */
    static void p05None() {
        refused(SaywhatSeen::new, "unsound() of a new film", ELEMENT, x -> x.unsound());
        Worlds.Made world = () -> {
            SaywhatSeen x = withTexts(2);
            x.sound('s', 0, 600);
            x.unsound();
            x.plan();
            return x;
        };
        refused(world, "unsound() of one that had one", ELEMENT, x -> x.unsound());
        Worlds.Made cut = () -> {
            SaywhatSeen x = withTexts(2);
            x.sound('s', 5, 6);
            x.cut(5, 1);
            return x;
        };
        refused(cut, "unsound() behind a cut", ELEMENT, x -> x.unsound());
    }

    /** The last one told goes, not the last one in the film. */
    static void p05TheLastOneTold() {
        SaywhatSeen x = new SaywhatSeen();
        x.sound('s', 100, 200);
        x.sound('s', 0, 50);
        due("unsound()", x.unsound(), 1);
        due("the first one stays", x.gapAt(false, 0, false), 100);
    }

    // ---- promise 6: gaps

    /** No gap: sounds in all ticks, by one or by many, one behind the other. */
    static void p06None() {
        SaywhatSeen one = new SaywhatSeen();
        one.sound('s', 0, 600);
        due("one sound", one.gaps(false) + one.gaps(true), 0);
        SaywhatSeen many = ofTicks(30);
        for (int i = 29; i >= 0; i--) {
            many.sound(i % 2 == 0 ? 's' : 'n', i, i + 1);
        }
        due("30 sounds", many.gaps(false) + many.gaps(true), 0);
        SaywhatSeen least = ofTicks(1);
        least.sound('n', 0, 1);
        due("a film of a tick", least.gaps(false), 0);
    }

    /** One gap: all of a film without sounds, or what a sound leaves of it. */
    static void p06One() {
        due("a film of a tick", ofTicks(1).gaps(true), 1);
        due("a film of 900", ofTicks(900).gaps(true), 1);
        SaywhatSeen first = new SaywhatSeen();
        first.sound('s', 1, 600);
        due("the first tick", first.gaps(false), 1);
        SaywhatSeen last = new SaywhatSeen();
        last.sound('s', 0, 599);
        due("the last tick", last.gaps(false), 1);
    }

    /** 31 gaps: 30 sounds, and a tick ahead of, behind, and between them. */
    static void p06ThirtyOne() {
        SaywhatSeen x = ofTicks(61);
        for (int i = 29; i >= 0; i--) {
            x.sound('n', 2 * i + 1, 2 * i + 2);
        }
        due("gaps", x.gaps(false), 31);
        due("silent gaps", x.gaps(true), 31);
    }

    /** "ticks one behind the other without a spoken sound and without a noise, as many as there are" */
    static void p06SoundsThatTouch() {
        SaywhatSeen x = new SaywhatSeen();
        x.sound('s', 10, 20);
        x.sound('n', 20, 30);
        due("no tick between", x.gaps(false), 2);
        x.sound('s', 31, 40);
        due("a tick between", x.gaps(false), 3);
        x.sound('s', 30, 31);
        due("a sound in it", x.gaps(false), 2);
    }

    /** "isSilent: whether without music, too" */
    static void p06Music() {
        SaywhatSeen x = new SaywhatSeen();
        x.sound('g', 10, 20);
        due("with music", x.gaps(false), 1);
        due("without music", x.gaps(true), 2);
        x.sound('s', 20, 30);
        due("speech behind music, with music", x.gaps(false), 2);
        due("speech behind music, without music", x.gaps(true), 2);
        x.sound('g', 0, 600);
        due("music in all ticks, with music", x.gaps(false), 2);
        due("music in all ticks, without music", x.gaps(true), 0);
    }

    // ---- promise 7: gapAt

    /** "index: the index, from 0" */
    static void p07FirstAndLastIndex() {
        SaywhatSeen x = withSounds(30);
        due("the first one begins", x.gapAt(false, 0, true), 1);
        due("the first one ends", x.gapAt(false, 0, false), 2);
        due("the last one begins", x.gapAt(false, 29, true), 59);
        due("the last one ends", x.gapAt(false, 29, false), 600);
    }

    /** "NoSuchElementException if there is none", behind the last one */
    static void p07BehindTheLastIndex() {
        for (boolean isStart : new boolean[] {true, false}) {
            refused(() -> withSounds(30), "index 30", ELEMENT, x -> x.gapAt(false, 30, isStart));
            refused(SaywhatSeen::new, "index 1", ELEMENT, x -> x.gapAt(true, 1, isStart));
            refused("index 31", ELEMENT, x -> x.gapAt(false, 31, isStart));
            refused("index HIGH", ELEMENT, x -> x.gapAt(true, HIGH, isStart));
        }
    }

    /** "NoSuchElementException if there is none", ahead of the first one */
    static void p07AheadOfTheFirstIndex() {
        for (boolean isStart : new boolean[] {true, false}) {
            refused("index -1", ELEMENT, x -> x.gapAt(false, -1, isStart));
            refused("index LOW", ELEMENT, x -> x.gapAt(true, LOW, isStart));
        }
    }

    /** "NoSuchElementException if there is none", in a film without gaps */
    static void p07NoGapAtAll() {
        Worlds.Made speech = () -> {
            SaywhatSeen x = new SaywhatSeen();
            x.sound('s', 0, 600);
            return x;
        };
        refused(speech, "index 0", ELEMENT, x -> x.gapAt(false, 0, true));
        Worlds.Made music = () -> {
            SaywhatSeen x = new SaywhatSeen();
            x.sound('g', 0, 600);
            return x;
        };
        refused(music, "index 0 of silent ones", ELEMENT, x -> x.gapAt(true, 0, true));
        due("index 0 with music", music.anew().gapAt(false, 0, false), 600);
        refused(music, "index 1 with music", ELEMENT, x -> x.gapAt(false, 1, false));
    }

    /** "isStart: whether its first tick is meant, otherwise that behind its last one" */
    static void p07Ends() {
        SaywhatSeen x = ofTicks(900);
        x.sound('s', 1, 899);
        due("a gap of the first tick begins", x.gapAt(false, 0, true), 0);
        due("a gap of the first tick ends", x.gapAt(false, 0, false), 1);
        due("a gap of the last tick begins", x.gapAt(false, 1, true), 899);
        due("a gap of the last tick ends", x.gapAt(false, 1, false), 900);
        x.unsound();
        x.sound('g', 0, 1);
        due("behind music at 0", x.gapAt(true, 0, true), 1);
        due("with music at 0", x.gapAt(false, 0, true), 0);
    }

    // ---- promise 8: named

    /** "person: 0 to 9" */
    static void p08FirstAndLastPerson() {
        SaywhatSeen x = new SaywhatSeen();
        due("person 0", x.named(0, 5), -1);
        due("person 9", x.named(9, 6), -1);
        due("person 0 before", x.named(0, 7), 5);
        due("person 9 before", x.named(9, 8), 6);
    }

    /** "IllegalArgumentException if there is no such person" */
    static void p08NoSuchPerson() {
        for (int person : new int[] {-1, 10, LOW, HIGH}) {
            refused("person " + person, ARGUMENT, x -> x.named(person, 0));
            refused("person " + person + ", never", ARGUMENT, x -> x.named(person, -1));
        }
    }

    /** "tick: the tick, or -1 for never" */
    static void p08FirstAndLastTick() {
        for (int ticks : new int[] {1, 600, 900}) {
            SaywhatSeen x = ofTicks(ticks);
            due("the first tick of " + ticks, x.named(4, 0), -1);
            due("the last tick of " + ticks, x.named(4, ticks - 1), 0);
            due("never", x.named(4, -1), ticks - 1);
            due("never, before", x.named(4, -1), -1);
        }
    }

    /** "or tick but -1" */
    static void p08NoSuchTick() {
        for (int ticks : new int[] {1, 600, 900}) {
            refused(() -> ofTicks(ticks), "the end of " + ticks, ARGUMENT, x -> x.named(0, ticks));
        }
        for (int tick : new int[] {-2, 900, LOW, HIGH}) {
            refused("tick " + tick, ARGUMENT, x -> x.named(9, tick));
        }
    }

    // ---- promise 9: voice

    /** "speed: 2 to 9" */
    static void p09SlowestAndFastest() {
        SaywhatSeen x = withTexts(1);
        due("speed 2", x.voice(2, 3), 4);
        due("ticks at 2", x.ticks(0, 0), 20);
        due("speed 9", x.voice(9, 3), 2);
        due("ticks at 9", x.ticks(0, 0), 5);
        due("speed before", x.voice(4, 3), 9);
    }

    /** "IllegalArgumentException if a number is out of range", the speed */
    static void p09NoSuchSpeed() {
        for (int speed : new int[] {1, 10, 0, -1, LOW, HIGH}) {
            refused("speed " + speed, ARGUMENT, x -> x.voice(speed, 7));
        }
    }

    /** "breath: 0 to 20" */
    static void p09NoBreathAndTheLongest() {
        for (int breath : new int[] {0, 1, 19, 20}) {
            SaywhatSeen x = withTexts(2);
            x.voice(4, breath);
            x.plan();
            due("start behind a breath of " + breath, x.start(0), 10 + breath);
        }
    }

    /** "IllegalArgumentException if a number is out of range", the breath */
    static void p09NoSuchBreath() {
        for (int breath : new int[] {-1, 21, LOW, HIGH}) {
            refused("breath " + breath, ARGUMENT, x -> x.voice(7, breath));
            refused("breath " + breath + ", and speed 1", ARGUMENT, x -> x.voice(1, breath));
        }
    }
}
