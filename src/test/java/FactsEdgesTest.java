/** The edges that the promises 10 to 17 name, a test for each; the comments are the document's words. */
public final class FactsEdgesTest extends Edges {
    public static void main(String[] args) throws IllegalAccessException {
        Checks.runAll(FactsEdgesTest.class);
    }

    /** Ten facts, of which the numbers 3 and 7 are dropped. */
    private static SaywhatSeen withHoles() {
        SaywhatSeen x = withTexts(10);
        x.drop(3);
        x.drop(7);
        return x;
    }

    private static void noSuchFact(String call, Class<? extends RuntimeException> kind, CallOfFact made) {
        for (int fact : NO_FACTS) {
            refused(call + " of fact " + fact, kind, x -> made.of(x, fact));
        }
        refused(SaywhatSeen::new, call + " without facts", kind, x -> made.of(x, 0));
        refused(Worlds::busy, call + " of the next number", kind, x -> made.of(x, 5));
        refused(FactsEdgesTest::withHoles, call + " of one dropped", kind, x -> made.of(x, 3));
        refused(FactsEdgesTest::withHoles, call + " of the other one dropped", kind, x -> made.of(x, 7));
    }

    private interface CallOfFact {
        Object of(SaywhatSeen x, int fact);
    }

    // ---- promise 10: fact

    /** "from: the tick from which it is seen", "or it is not within the film" */
    static void p10FromIsWithinTheFilm() {
        due("from 0", new SaywhatSeen().fact(0, 600, 1, 0, true), 0);
        due("from the last tick", new SaywhatSeen().fact(599, 600, 1, 0, true), 0);
        refused(SaywhatSeen::new, "from the end", ARGUMENT, x -> x.fact(600, 601, 1, 0, true));
        for (int from : new int[] {-1, -60, LOW}) {
            refused("from " + from, ARGUMENT, x -> x.fact(from, 100, 1, 60, true));
        }
        refused("all ahead of the film", ARGUMENT, x -> x.fact(-5, -2, 1, 0, true));
    }

    /** "by: the tick by which it is to be told, greater" */
    static void p10ByIsGreater() {
        due("by the next tick", new SaywhatSeen().fact(5, 6, 1, 0, true), 0);
        for (int by : new int[] {5, 4, 0, -1, LOW}) {
            refused("from 5, by " + by, ARGUMENT, x -> x.fact(5, by, 1, 0, true));
        }
        refused("from HIGH, by LOW", ARGUMENT, x -> x.fact(HIGH, LOW, 1, 0, true));
        refused("from HIGH, by HIGH", ARGUMENT, x -> x.fact(HIGH, HIGH, 1, 0, true));
    }

    /** "at most the ticks of the film" */
    static void p10ByIsWithinTheFilm() {
        for (int ticks : new int[] {1, 600, 900}) {
            due("by " + ticks, ofTicks(ticks).fact(0, ticks, 1, 0, true), 0);
            refused(() -> ofTicks(ticks), "beyond " + ticks, ARGUMENT, x -> x.fact(0, ticks + 1, 1, 0, true));
        }
        refused("by HIGH", ARGUMENT, x -> x.fact(0, HIGH, 1, 0, true));
    }

    /** "weight: 1 to 99" */
    static void p10Weight() {
        for (int weight : new int[] {1, 2, 98, 99}) {
            SaywhatSeen x = new SaywhatSeen();
            due("weight " + weight, x.fact(0, 600, weight, 0, true), 0);
            x.plan();
            due("the weight", x.loss(), weight);
        }
        for (int weight : new int[] {0, 100, -1, LOW, HIGH}) {
            refused("weight " + weight, ARGUMENT, x -> x.fact(0, 1, weight, 0, true));
        }
    }

    /** "ahead: 0 to 60" */
    static void p10Ahead() {
        for (int ahead : new int[] {0, 1, 59, 60}) {
            SaywhatSeen x = new SaywhatSeen();
            due("ahead " + ahead, x.fact(100, 600, 1, ahead, true), 0);
            x.version(0, 4);
            due("the first start", x.firstStart(0, 0, 0), 100 - ahead);
        }
        for (int ahead : new int[] {-1, 61, LOW, HIGH}) {
            refused("ahead " + ahead, ARGUMENT, x -> x.fact(0, 1, 1, ahead, true));
        }
    }

    /** "isOver: whether it may be told over music" */
    static void p10IsOver() {
        for (boolean isOver : new boolean[] {true, false}) {
            SaywhatSeen x = new SaywhatSeen();
            x.sound('g', 0, 600);
            x.fact(0, 600, 1, 0, isOver);
            x.version(0, 4);
            due("over music " + isOver, x.canStart(0, 0, 0), isOver);
        }
    }

    /** "At most 10 facts have numbers from 0 on" */
    static void p10TenFacts() {
        SaywhatSeen x = new SaywhatSeen();
        for (int i = 0; i < 10; i++) {
            due("fact " + i, x.fact(0, 600, 1, 0, true), i);
        }
    }

    /** "IllegalStateException if there are 10" */
    static void p10NoFact11() {
        refused(Worlds::full, "fact 11", STATE, x -> x.fact(0, 1, 1, 0, true));
        refused(() -> withTexts(10), "fact 11", STATE, x -> x.fact(0, 600, 99, 60, false));
        due("of 9", withTexts(9).fact(0, 1, 1, 0, true), 9);
    }

    /** "the lowest free number is taken" */
    static void p10LowestFreeNumber() {
        for (int gone = 0; gone < 10; gone++) {
            SaywhatSeen x = withTexts(10);
            x.drop(gone);
            due("in place of " + gone, x.fact(0, 1, 1, 0, true), gone);
            fails("full again", STATE, () -> x.fact(0, 1, 1, 0, true));
        }
        SaywhatSeen x = withHoles();
        due("of two free ones", x.fact(0, 1, 1, 0, true), 3);
        due("of one free", x.fact(0, 1, 1, 0, true), 7);
    }

    /** "If several exceptions apply, the one that is documented first is thrown." */
    static void p10RangeAheadOfFull() {
        Worlds.Made ten = () -> withTexts(10);
        refused(ten, "from", ARGUMENT, x -> x.fact(-1, 1, 1, 0, true));
        refused(ten, "by", ARGUMENT, x -> x.fact(0, 601, 1, 0, true));
        refused(ten, "turned", ARGUMENT, x -> x.fact(5, 5, 1, 0, true));
        refused(ten, "weight", ARGUMENT, x -> x.fact(0, 1, 0, 0, true));
        refused(ten, "ahead", ARGUMENT, x -> x.fact(0, 1, 1, 61, true));
    }

    /** A new fact has no texts, names nobody, and is of no thing, whatever one of its number was. */
    static void p10NewFactHasNothing() {
        SaywhatSeen x = withTexts(2);
        x.version(0, 5);
        x.names(0, 3);
        x.thing(0, 4, 5);
        x.drop(0);
        x.fact(0, 600, 1, 0, true);
        fails("its first version", ELEMENT, () -> x.ticks(0, 0));
        due("whom it names", x.names(0, -1), -1);
        due("its thing", x.thing(0, -1, 0), -1);
    }

    // ---- promise 11: drop

    /** "Returns how many are left." */
    static void p11FromTenToNone() {
        SaywhatSeen up = withTexts(10);
        SaywhatSeen down = withTexts(10);
        for (int left = 9; left >= 0; left--) {
            due("drop, the lowest", up.drop(9 - left), left);
            due("drop, the highest", down.drop(left), left);
        }
        due("all are free", up.fact(0, 1, 1, 0, true), 0);
    }

    /** "IndexOutOfBoundsException if there is no such fact" */
    static void p11NoSuchFact() {
        noSuchFact("drop", INDEX, (x, fact) -> x.drop(fact));
    }

    /** "as ... a fact goes, those of numbers that are not there are gone": marks */
    static void p11ItsMarksAreGone() {
        for (int gone : new int[] {0, 5, 9}) {
            SaywhatSeen x = withTexts(10);
            for (int i = 0; i < 60; i++) {
                x.mark(i / 6, i % 6, 4);
            }
            x.drop(gone);
            x.fact(0, 1, 1, 0, true);
            for (int i = 0; i < 60; i++) {
                due("fact " + i / 6 + " listener " + i % 6, x.mark(i / 6, i % 6, 0), i / 6 == gone ? -1 : 4);
            }
        }
    }

    /** "as ... a fact goes, those of numbers that are not there are gone": what became of it */
    static void p11WhatBecameOfItIsGone() {
        for (int gone : new int[] {0, 9}) {
            SaywhatSeen told = withTexts(10);
            told.live();
            told.cue(gone);
            told.tick(13);
            told.cue(4);
            told.drop(gone);
            due("the one under way", told.told(4), 'u');
            told.fact(0, 1, 1, 0, true);
            due("the one told", told.told(gone), '-');
            SaywhatSeen lost = withTexts(10);
            lost.live();
            lost.cue(gone);
            lost.speak(true);
            lost.drop(gone);
            lost.fact(0, 1, 1, 0, true);
            due("the one lost", lost.told(gone), '-');
        }
    }

    /** "and a text under way of such a one is broken off, but not lost" */
    static void p11UnderWayIsBrokenOff() {
        SaywhatSeen x = withTexts(2);
        x.live();
        x.cue(0);
        x.tick(4);
        x.drop(0);
        fails("the breath begins then", UNSUPPORTED, () -> x.cue(1));
        due("nothing ends", x.tick(2), 0);
        fails("a tick is missing", UNSUPPORTED, () -> x.cue(1));
        due("nothing ends", x.tick(1), 0);
        due("the breath went by", x.cue(1), 10);
        x.fact(0, 600, 1, 0, true);
        due("not lost", x.told(0), '-');
    }

    /** Another one than that under way goes: the text goes on, and ends as it would have. */
    static void p11AnotherGoes() {
        SaywhatSeen x = withTexts(3);
        x.live();
        x.cue(1);
        x.tick(9);
        x.drop(0);
        x.drop(2);
        due("under way", x.told(1), 'u');
        due("it ends", x.tick(1), 1);
        due("told", x.told(1), 't');
    }

    /** Without a stage nothing is under way: a fact goes, and a stage that begins then is a new one. */
    static void p11WithoutAStage() {
        SaywhatSeen x = withTexts(2);
        due("drop(0)", x.drop(0), 1);
        fails("no stage", STATE, () -> x.tick(1));
        x.live();
        due("no breath to wait for", x.cue(1), 10);
    }

    // ---- promise 12: names

    /** "person: 0 to 9, or -1 for none" */
    static void p12FirstAndLastPerson() {
        SaywhatSeen x = withTexts(1);
        due("person 0", x.names(0, 0), -1);
        due("person 9", x.names(0, 9), 0);
        due("none", x.names(0, -1), 9);
        due("none, before", x.names(0, -1), -1);
    }

    /** "IllegalArgumentException if a number is out of range" */
    static void p12NoSuchPerson() {
        for (int person : new int[] {-2, 10, LOW, HIGH}) {
            refusedLiving("person " + person, ARGUMENT, x -> x.names(0, person));
        }
    }

    /** "IndexOutOfBoundsException if there is no such fact", and ahead of the range */
    static void p12NoSuchFact() {
        noSuchFact("names", INDEX, (x, fact) -> x.names(fact, 0));
        noSuchFact("names, of a person out of range", INDEX, (x, fact) -> x.names(fact, 10));
    }

    // ---- promise 13: thing

    /** "thing: 0 to 9, or -1 for none" */
    static void p13FirstAndLastThing() {
        SaywhatSeen x = withTexts(1);
        due("thing 0", x.thing(0, 0, 5), -1);
        due("thing 9", x.thing(0, 9, 5), 0);
        due("none", x.thing(0, -1, 5), 9);
        due("none, before", x.thing(0, -1, 5), -1);
    }

    /** "IllegalArgumentException if a number is out of range", the thing */
    static void p13NoSuchThing() {
        for (int thing : new int[] {-2, 10, LOW, HIGH}) {
            refusedLiving("thing " + thing, ARGUMENT, x -> x.thing(0, thing, 5));
            refusedLiving("thing " + thing + ", term 10", ARGUMENT, x -> x.thing(0, thing, 10));
        }
    }

    /** "term: 0 to 9" */
    static void p13FirstAndLastTerm() {
        SaywhatSeen x = withTexts(2);
        due("term 0", x.thing(0, 3, 0), -1);
        due("term 9", x.thing(1, 3, 9), -1);
        due("unlike", x.canTell(3), false);
        due("term 9, too", x.thing(0, 3, 9), 3);
        due("like", x.canTell(3), true);
    }

    /** "IllegalArgumentException if a number is out of range", the term */
    static void p13NoSuchTerm() {
        for (int term : new int[] {-1, 10, LOW, HIGH}) {
            refusedLiving("term " + term + " of thing 0", ARGUMENT, x -> x.thing(0, 0, term));
            refusedLiving("term " + term + " of thing 9", ARGUMENT, x -> x.thing(0, 9, term));
        }
    }

    /** "of no meaning without a thing" */
    static void p13NoTermWithoutAThing() {
        for (int term : new int[] {-1, 0, 9, 10, LOW, HIGH}) {
            SaywhatSeen x = withTexts(2);
            x.thing(0, 9, 1);
            due("term " + term + " without a thing", x.thing(0, -1, term), 9);
            due("and once more", x.thing(0, -1, term), -1);
            x.thing(1, 9, 2);
            due("of unlike things", x.canTell(3), true);
        }
    }

    /** "IndexOutOfBoundsException if there is no such fact", and ahead of the range */
    static void p13NoSuchFact() {
        noSuchFact("thing", INDEX, (x, fact) -> x.thing(fact, 0, 0));
        noSuchFact("thing out of range", INDEX, (x, fact) -> x.thing(fact, 10, 0));
        noSuchFact("term out of range", INDEX, (x, fact) -> x.thing(fact, 0, 10));
        noSuchFact("no thing", INDEX, (x, fact) -> x.thing(fact, -1, 10));
    }

    // ---- promise 14: version

    /** "syllables: 1 to 80" */
    static void p14FewestAndMostSyllables() {
        SaywhatSeen x = new SaywhatSeen();
        x.fact(0, 600, 1, 0, true);
        due("1 syllable", x.version(0, 1), 1);
        due("80 syllables", x.version(0, 80), 2);
        due("their ticks", x.ticks(0, 0) + x.ticks(0, 1), 3 + 200);
        x.fact(0, 600, 1, 0, true);
        due("80 at first", x.version(1, 80), 1);
    }

    /** "IllegalArgumentException if it is out of range" */
    static void p14NoSuchLength() {
        for (int syllables : new int[] {0, -1, 81, LOW, HIGH}) {
            refusedLiving(syllables + " syllables", ARGUMENT, x -> x.version(0, syllables));
            refused(Worlds::busy, syllables + " without a text", ARGUMENT, x -> x.version(3, syllables));
        }
    }

    /** "or not more than those of the version before", "each longer than the one told before" */
    static void p14NotMoreThanBefore() {
        Worlds.Made one = () -> {
            SaywhatSeen x = new SaywhatSeen();
            x.fact(0, 600, 1, 0, true);
            x.version(0, 40);
            return x;
        };
        Worlds.Made two = () -> {
            SaywhatSeen x = one.anew();
            x.version(0, 50);
            return x;
        };
        refused(one, "as many", ARGUMENT, x -> x.version(0, 40));
        refused(one, "one less", ARGUMENT, x -> x.version(0, 39));
        due("one more", one.anew().version(0, 41), 2);
        refused(two, "as many as the second", ARGUMENT, x -> x.version(0, 50));
        refused(two, "more than the first, not than the second", ARGUMENT, x -> x.version(0, 45));
        due("one more than the second", two.anew().version(0, 51), 3);
    }

    /** The version before is one of the same fact. */
    static void p14OtherFactsDoNotCount() {
        SaywhatSeen x = new SaywhatSeen();
        x.fact(0, 600, 1, 0, true);
        x.fact(0, 600, 1, 0, true);
        x.version(0, 80);
        due("1 syllable of another one", x.version(1, 1), 1);
        x.drop(0);
        x.fact(0, 600, 1, 0, true);
        due("1 syllable of a new one", x.version(0, 1), 1);
    }

    /** "IllegalArgumentException if ... not more": nothing is more than 80. */
    static void p14NothingIsMoreThan80() {
        Worlds.Made world = () -> {
            SaywhatSeen x = new SaywhatSeen();
            x.fact(0, 600, 1, 0, true);
            x.version(0, 80);
            return x;
        };
        refused(world, "80 again", ARGUMENT, x -> x.version(0, 80));
        refused(world, "81", ARGUMENT, x -> x.version(0, 81));
    }

    /** "It has at most 3 versions of its text", "IllegalStateException if it has 3" */
    static void p14ThreeVersions() {
        Worlds.Made three = () -> {
            SaywhatSeen x = withTexts(2);
            x.version(0, 5);
            x.version(0, 6);
            return x;
        };
        SaywhatSeen x = withTexts(1);
        due("the second one", x.version(0, 5), 2);
        due("the third one", x.version(0, 6), 3);
        refused(three, "a fourth one", STATE, y -> y.version(0, 7));
        refused(three, "a fourth one of 80", STATE, y -> y.version(0, 80));
        refused(Worlds::busy, "a fourth one", STATE, y -> y.version(2, 80));
        due("another fact has room", three.anew().version(1, 5), 2);
    }

    /** "If several exceptions apply, the one that is documented first is thrown." */
    static void p14Order() {
        refused(Worlds::busy, "not more, and it has 3", ARGUMENT, x -> x.version(2, 7));
        refused(Worlds::busy, "less, and it has 3", ARGUMENT, x -> x.version(2, 5));
        refused(Worlds::busy, "81, and it has 3", ARGUMENT, x -> x.version(2, 81));
        refused(Worlds::busy, "0, and it has 3", ARGUMENT, x -> x.version(2, 0));
        noSuchFact("version", INDEX, (x, fact) -> x.version(fact, 80));
        noSuchFact("version out of range", INDEX, (x, fact) -> x.version(fact, 0));
    }

    // ---- promise 15: ticks

    /** "version: the version, from 0" */
    static void p15FirstAndLastVersion() {
        SaywhatSeen x = withTexts(1);
        due("the first one", x.ticks(0, 0), 10);
        x.version(0, 8);
        due("the second one", x.ticks(0, 1), 20);
        x.version(0, 80);
        due("the third one", x.ticks(0, 2), 200);
    }

    /** "NoSuchElementException if there is none" */
    static void p15NoSuchVersion() {
        for (int version : new int[] {-1, 3, LOW, HIGH}) {
            refusedLiving("version " + version, ELEMENT, x -> x.ticks(0, version));
        }
        refused(() -> withTexts(1), "a second of one", ELEMENT, x -> x.ticks(0, 1));
        refused(Worlds::busy, "a third of two", ELEMENT, x -> x.ticks(0, 2));
        refused(Worlds::busy, "a first of none", ELEMENT, x -> x.ticks(3, 0));
    }

    /** "IndexOutOfBoundsException if there is no such fact", and ahead of the version */
    static void p15NoSuchFact() {
        noSuchFact("ticks", INDEX, (x, fact) -> x.ticks(fact, 0));
        noSuchFact("ticks of no version", INDEX, (x, fact) -> x.ticks(fact, 3));
    }

    /** "A text takes 10 times its syllables, divided by the speed, ticks, rounded up." */
    static void p15RoundedUp() {
        for (int speed = 2; speed <= 9; speed++) {
            for (int syllables = 1; syllables <= 80; syllables++) {
                SaywhatSeen x = new SaywhatSeen();
                x.fact(0, 600, 1, 0, true);
                x.version(0, syllables);
                x.voice(speed, 0);
                int even = 10 * syllables / speed;
                int due = even * speed == 10 * syllables ? even : even + 1;
                due(syllables + " at " + speed, x.ticks(0, 0), due);
            }
        }
    }

    /** The least and the most ticks that there are. */
    static void p15LeastAndMost() {
        SaywhatSeen x = new SaywhatSeen();
        x.fact(0, 600, 1, 0, true);
        x.version(0, 1);
        x.version(0, 80);
        x.voice(9, 0);
        due("1 syllable at 9", x.ticks(0, 0), 2);
        x.voice(2, 0);
        due("80 syllables at 2", x.ticks(0, 1), 400);
    }

    // ---- promise 16: canStart

    private static SaywhatSeen seenFrom(int from, int by, int ahead, boolean isOver) {
        SaywhatSeen x = new SaywhatSeen();
        x.fact(from, by, 1, ahead, isOver);
        x.version(0, 4);
        return x;
    }

    /** "within the film with all its ticks" */
    static void p16WithinTheFilm() {
        for (int ticks : new int[] {10, 600, 900}) {
            SaywhatSeen x = ofTicks(ticks);
            x.fact(0, ticks, 1, 60, true);
            x.version(0, 4);
            due("at 0 of " + ticks, x.canStart(0, 0, 0), true);
            due("at -1 of " + ticks, x.canStart(0, 0, -1), false);
            due("up to the end of " + ticks, x.canStart(0, 0, ticks - 10), true);
            due("a tick beyond " + ticks, x.canStart(0, 0, ticks - 9), false);
        }
        SaywhatSeen less = ofTicks(9);
        less.fact(0, 9, 1, 60, true);
        less.version(0, 4);
        due("10 ticks in a film of 9", less.canStart(0, 0, 0), false);
    }

    /** No tick is too low or too high to be asked for. */
    static void p16AnyTickCanBeAskedFor() {
        SaywhatSeen x = seenFrom(0, 600, 60, true);
        for (int tick : new int[] {LOW, LOW + 1, -60, 600, 900, HIGH - 10, HIGH - 9, HIGH}) {
            due("at " + tick, x.canStart(0, 0, tick), false);
        }
    }

    /** "not earlier than so many ticks ahead of when its fact is seen" */
    static void p16Ahead() {
        for (int ahead : new int[] {0, 1, 60}) {
            SaywhatSeen x = seenFrom(100, 600, ahead, true);
            due("ahead by " + ahead, x.canStart(0, 0, 100 - ahead), true);
            due("ahead by more than " + ahead, x.canStart(0, 0, 99 - ahead), false);
        }
        SaywhatSeen early = seenFrom(5, 600, 60, true);
        due("ahead up to the film's first tick", early.canStart(0, 0, 0), true);
        due("ahead of the film", early.canStart(0, 0, -1), false);
    }

    /** "nor than the tick at which the film names the person that it names" */
    static void p16NamedAtTheTick() {
        for (int person : new int[] {0, 9}) {
            SaywhatSeen x = seenFrom(0, 600, 0, true);
            x.names(0, person);
            x.named(person, 300);
            due("a tick ahead", x.canStart(0, 0, 299), false);
            due("at that tick", x.canStart(0, 0, 300), true);
            x.named(person, 0);
            due("named at 0", x.canStart(0, 0, 0), true);
        }
    }

    /** "whom it must name" */
    static void p16NamedMustBe() {
        SaywhatSeen x = seenFrom(0, 600, 0, true);
        x.names(0, 0);
        due("never named", x.canStart(0, 0, 590), false);
        x.named(1, 0);
        due("another one named", x.canStart(0, 0, 590), false);
        x.named(0, 0);
        due("named", x.canStart(0, 0, 590), true);
        x.named(0, -1);
        due("named no more", x.canStart(0, 0, 590), false);
        x.names(0, -1);
        due("names nobody", x.canStart(0, 0, 590), true);
    }

    /** A film that has become shorter may end ahead of the name: then nothing can follow on that. */
    static void p16NamedBehindTheEnd() {
        SaywhatSeen x = ofTicks(600);
        x.fact(0, 100, 1, 0, true);
        x.version(0, 4);
        x.names(0, 2);
        x.named(2, 90);
        due("named in time", x.canStart(0, 0, 90), true);
        x.named(2, 599);
        x.film(100);
        due("named behind the end", x.canStart(0, 0, 90), false);
    }

    /** "it ends by the tick by which it is to be told" */
    static void p16EndsByThen() {
        SaywhatSeen x = seenFrom(0, 50, 0, true);
        due("ends at that tick", x.canStart(0, 0, 40), true);
        due("ends a tick later", x.canStart(0, 0, 41), false);
        SaywhatSeen just = seenFrom(0, 10, 0, true);
        due("it just fits", just.canStart(0, 0, 0), true);
        SaywhatSeen less = seenFrom(0, 9, 0, true);
        due("a tick is missing", less.canStart(0, 0, 0), false);
    }

    /** "and no spoken sound and no noise is in its ticks" */
    static void p16NoSpeechNoNoise() {
        for (char kind : new char[] {'s', 'n'}) {
            for (boolean isOver : new boolean[] {true, false}) {
                SaywhatSeen x = seenFrom(0, 600, 0, isOver);
                x.sound(kind, 100, 101);
                due(kind + ": up to it", x.canStart(0, 0, 90), true);
                due(kind + ": into it", x.canStart(0, 0, 91), false);
                due(kind + ": at it", x.canStart(0, 0, 100), false);
                due(kind + ": behind it", x.canStart(0, 0, 101), true);
            }
        }
    }

    /** "nor music, if it may not be over that" */
    static void p16NoMusic() {
        SaywhatSeen x = seenFrom(0, 600, 0, false);
        x.sound('g', 100, 101);
        due("up to it", x.canStart(0, 0, 90), true);
        due("into it", x.canStart(0, 0, 91), false);
        due("at it", x.canStart(0, 0, 100), false);
        due("behind it", x.canStart(0, 0, 101), true);
        SaywhatSeen over = seenFrom(0, 600, 0, true);
        over.sound('g', 100, 101);
        due("over it", over.canStart(0, 0, 91), true);
    }

    /** Any one of 30 sounds counts. */
    static void p16OneOf30Sounds() {
        SaywhatSeen x = seenFrom(0, 600, 0, true);
        for (int i = 0; i < 30; i++) {
            x.sound('n', 20 * i + 10, 20 * i + 15);
        }
        for (int i = 0; i < 30; i++) {
            due("into sound " + i, x.canStart(0, 0, 20 * i + 5), false);
        }
        due("ahead of all", x.canStart(0, 0, 0), true);
        due("between two", x.canStart(0, 0, 20), true);
        due("a tick later", x.canStart(0, 0, 21), false);
    }

    /** "others aside" */
    static void p16OthersAside() {
        SaywhatSeen x = withTexts(2);
        x.thing(0, 1, 1);
        x.thing(1, 1, 2);
        x.plan();
        due("where another one is planned", x.canStart(0, 0, 0) && x.canStart(1, 0, 0), true);
    }

    /** "NoSuchElementException if there is no such version" */
    static void p16NoSuchVersion() {
        for (int version : new int[] {-1, 3, LOW, HIGH}) {
            refusedLiving("version " + version, ELEMENT, x -> x.canStart(0, version, 0));
        }
        refused(() -> withTexts(1), "a second of one", ELEMENT, x -> x.canStart(0, 1, 0));
        refused(Worlds::busy, "a first of none", ELEMENT, x -> x.canStart(3, 0, 0));
    }

    /** "IndexOutOfBoundsException if there is no such fact", and ahead of the version */
    static void p16NoSuchFact() {
        noSuchFact("canStart", INDEX, (x, fact) -> x.canStart(fact, 0, 0));
        noSuchFact("canStart of no version", INDEX, (x, fact) -> x.canStart(fact, -1, LOW));
    }

    // ---- promise 17: firstStart

    /** "Returns the first tick from one on": that one too */
    static void p17FromOneOn() {
        SaywhatSeen x = seenFrom(100, 600, 20, true);
        due("from a tick ahead", x.firstStart(0, 0, 79), 80);
        due("from the first one", x.firstStart(0, 0, 80), 80);
        due("from the next one", x.firstStart(0, 0, 81), 81);
        due("from 0", x.firstStart(0, 0, 0), 80);
    }

    /** The film's first tick is the first one that can be answered. */
    static void p17FromBelow() {
        SaywhatSeen x = seenFrom(0, 600, 60, true);
        for (int tick : new int[] {0, -1, -60, LOW}) {
            due("from " + tick, x.firstStart(0, 0, tick), 0);
        }
    }

    /** "NoSuchElementException if there is ... no such tick": behind the last one */
    static void p17BehindTheLast() {
        for (int ticks : new int[] {10, 600, 900}) {
            Worlds.Made world = () -> {
                SaywhatSeen x = ofTicks(ticks);
                x.fact(0, ticks, 1, 0, true);
                x.version(0, 4);
                return x;
            };
            due("the last one of " + ticks, world.anew().firstStart(0, 0, ticks - 10), ticks - 10);
            for (int tick : new int[] {ticks - 9, ticks - 1, ticks, ticks + 1, HIGH - 9, HIGH}) {
                refused(world, "from " + tick + " of " + ticks, ELEMENT, x -> x.firstStart(0, 0, tick));
            }
        }
    }

    /** "NoSuchElementException if there is ... no such tick": none is early enough */
    static void p17TooLateForBy() {
        due("it just fits", seenFrom(50, 60, 0, true).firstStart(0, 0, 0), 50);
        refused(() -> seenFrom(50, 59, 0, true), "a tick is missing", ELEMENT, x -> x.firstStart(0, 0, 0));
        due("ahead", seenFrom(50, 59, 1, true).firstStart(0, 0, 0), 49);
        refused(() -> seenFrom(50, 100, 0, true), "from 91", ELEMENT, x -> x.firstStart(0, 0, 91));
        due("from 90", seenFrom(50, 100, 0, true).firstStart(0, 0, 90), 90);
    }

    /** "NoSuchElementException if there is ... no such tick": the person is never named, or too late */
    static void p17NeverNamed() {
        Worlds.Made never = () -> {
            SaywhatSeen x = seenFrom(0, 100, 0, true);
            x.names(0, 9);
            return x;
        };
        refused(never, "never named", ELEMENT, x -> x.firstStart(0, 0, 0));
        SaywhatSeen x = never.anew();
        x.named(9, 90);
        due("named in time", x.firstStart(0, 0, 0), 90);
        x.named(9, 91);
        fails("named too late", ELEMENT, () -> x.firstStart(0, 0, 0));
        x.named(9, 599);
        fails("named at the end", ELEMENT, () -> x.firstStart(0, 0, 0));
    }

    /** A gap as long as the text is enough, one that is a tick shorter is not. */
    static void p17GapsThatJustFit() {
        SaywhatSeen x = seenFrom(0, 600, 0, true);
        x.sound('s', 0, 20);
        x.sound('n', 29, 40);
        x.sound('s', 50, 600);
        due("behind a gap of 9, in one of 10", x.firstStart(0, 0, 0), 40);
        fails("from a tick later", ELEMENT, () -> x.firstStart(0, 0, 41));
        x.sound('g', 45, 46);
        due("over music", x.firstStart(0, 0, 0), 40);
    }

    /** The same where it may not be told over music. */
    static void p17GapsWithoutMusic() {
        SaywhatSeen x = seenFrom(0, 600, 0, false);
        x.sound('g', 9, 20);
        due("behind music", x.firstStart(0, 0, 0), 20);
        x.sound('g', 29, 600);
        fails("in 9 ticks", ELEMENT, () -> x.firstStart(0, 0, 0));
        x.cut(5, 1);
        x.insert(5, 2);
        due("in 10 ticks", x.firstStart(0, 0, 0), 0);
    }

    /** Behind 30 sounds, whatever the order in which they were told. */
    static void p17BehindThirtySounds() {
        for (boolean isTurned : new boolean[] {true, false}) {
            SaywhatSeen x = seenFrom(0, 600, 0, true);
            for (int i = 0; i < 30; i++) {
                int at = 10 * (isTurned ? 29 - i : i);
                x.sound('s', at + 5, at + 7);
            }
            due("behind all", x.firstStart(0, 0, 0), 297);
        }
    }

    /** "NoSuchElementException if there is no such version" */
    static void p17NoSuchVersion() {
        for (int version : new int[] {-1, 3, LOW, HIGH}) {
            refusedLiving("version " + version, ELEMENT, x -> x.firstStart(0, version, 0));
        }
        refused(() -> withTexts(1), "a second of one", ELEMENT, x -> x.firstStart(0, 1, 0));
        refused(Worlds::busy, "a first of none", ELEMENT, x -> x.firstStart(3, 0, 0));
    }

    /** "IndexOutOfBoundsException if there is no such fact", and ahead of the others */
    static void p17NoSuchFact() {
        noSuchFact("firstStart", INDEX, (x, fact) -> x.firstStart(fact, 0, 0));
        noSuchFact("firstStart of no version", INDEX, (x, fact) -> x.firstStart(fact, -1, 0));
        noSuchFact("firstStart at no tick", INDEX, (x, fact) -> x.firstStart(fact, 0, HIGH));
    }
}
