/** The edges that the promises 29 to 34 name, a test for each; the comments are the document's words. */
public final class StageEdgesTest extends Edges {
    public static void main(String[] args) throws IllegalAccessException {
        Checks.runAll(StageEdgesTest.class);
    }

    /** A live stage with so many facts, each with a text of 10 ticks; nothing is told yet. */
    private static SaywhatSeen live(int many) {
        SaywhatSeen x = withTexts(many);
        x.live();
        return x;
    }

    /** The same with the text of fact 0 under way. */
    private static SaywhatSeen underWay(int many) {
        SaywhatSeen x = live(many);
        x.cue(0);
        return x;
    }

    /** The same with fact 0 told, this very tick. */
    private static SaywhatSeen told(int many) {
        SaywhatSeen x = underWay(many);
        x.tick(10);
        return x;
    }

    // ---- promise 29: live

    /** "Returns how many facts have texts.": none, some, all */
    static void p29NoneToTen() {
        due("without facts", new SaywhatSeen().live(), 0);
        SaywhatSeen x = new SaywhatSeen();
        for (int i = 0; i < 10; i++) {
            x.fact(0, 600, 1, 0, true);
        }
        due("without texts", x.live(), 0);
        for (int i = 9; i >= 0; i--) {
            x.version(i, 1);
            due("with texts from " + i + " on", x.live(), 10 - i);
            x.version(i, 2);
            due("with one more version", x.live(), 10 - i);
        }
        x.drop(4);
        due("without one of them", x.live(), 9);
    }

    /** "begins at the tick 0 of its own, with nobody speaking" */
    static void p29NobodySpeaks() {
        due("on the first stage", live(1).speak(true), false);
        SaywhatSeen x = live(1);
        x.speak(true);
        x.live();
        due("on the next one", x.speak(true), false);
    }

    /** "and nothing told", "in place of another one" */
    static void p29NothingTold() {
        SaywhatSeen x = told(10);
        x.tick(3);
        x.cue(9);
        x.speak(true);
        x.tick(3);
        x.speak(false);
        x.cue(5);
        due("told, lost, under way", "" + x.told(0) + x.told(9) + x.told(5), "tlu");
        x.live();
        for (int i = 0; i < 10; i++) {
            due("told(" + i + ") then", x.told(i), '-');
        }
        due("nothing is under way", x.tick(200), 0);
    }

    /** Nobody is named on a stage that begins. */
    static void p29NobodyIsNamed() {
        SaywhatSeen x = live(1);
        for (int person = 0; person < 10; person++) {
            x.call(person);
        }
        x.live();
        for (int person = 0; person < 10; person++) {
            due("call(" + person + ")", x.call(person), false);
        }
    }

    /** No text was there before: the first cue needs no breath, not the longest, in place of any stage. */
    static void p29FirstCueNeedsNoBreath() {
        SaywhatSeen x = withTexts(3);
        x.voice(4, 20);
        x.live();
        due("on the first stage", x.cue(0), 10);
        x.live();
        due("in place of one with a text under way", x.cue(0), 10);
        x.speak(true);
        x.live();
        due("in place of one that is lost", x.cue(0), 10);
        x.tick(10);
        x.live();
        due("in place of one that is told", x.cue(0), 10);
    }

    /** A stage changes nothing of the film: it can begin when all is full. */
    static void p29InAFullFilm() {
        due("of ten", Worlds.full().live(), 10);
        SaywhatSeen x = Worlds.full();
        long before = x.checksum();
        int weight = x.weight();
        x.live();
        due("checksum", x.checksum(), before);
        due("weight", x.weight(), weight);
    }

    // ---- promise 30: speak

    /** "Returns whether somebody did." */
    static void p30WhetherSomebodyDid() {
        SaywhatSeen x = live(0);
        due("nobody, nobody", x.speak(false), false);
        due("nobody, somebody", x.speak(true), false);
        due("somebody, somebody", x.speak(true), true);
        due("somebody, nobody", x.speak(false), true);
        due("nobody again", x.speak(false), false);
    }

    /** "IllegalStateException if no stage is live" */
    static void p30NoStage() {
        refused(SaywhatSeen::new, "speak(true)", STATE, x -> x.speak(true));
        refused(() -> withTexts(10), "speak(false)", STATE, x -> x.speak(false));
    }

    /** "As somebody speaks while it is under way, it is broken off at once, and lost": in its first tick */
    static void p30BrokenOffAtOnce() {
        SaywhatSeen x = underWay(1);
        x.speak(true);
        due("before a tick passed", x.told(0), 'l');
        x.speak(false);
        due("nothing ends", x.tick(200), 0);
        due("it stays lost", x.told(0), 'l');
    }

    /** "broken off at once, and lost": with one tick left, and not with none left */
    static void p30BrokenOffInTheLastTick() {
        SaywhatSeen x = underWay(1);
        x.tick(9);
        x.speak(true);
        due("with a tick left", x.told(0), 'l');
        SaywhatSeen y = underWay(1);
        y.tick(10);
        y.speak(true);
        due("with no tick left", y.told(0), 't');
    }

    /** Nobody who speaks breaks nothing off. */
    static void p30NobodyBreaksNothingOff() {
        SaywhatSeen x = underWay(1);
        x.speak(false);
        due("under way", x.told(0), 'u');
        due("to its end", x.tick(10), 1);
    }

    /** Speech without a text under way makes nothing lost, and no breath begins by it. */
    static void p30SpeechWithoutAText() {
        SaywhatSeen x = live(2);
        x.speak(true);
        due("nothing is lost", "" + x.told(0) + x.told(1), "--");
        x.speak(false);
        due("no breath to wait for", x.cue(0), 10);
        x.tick(10);
        x.tick(2);
        x.speak(true);
        x.speak(false);
        x.tick(1);
        due("the breath since the text", x.cue(1), 10);
    }

    /** "and can be cued again" */
    static void p30CuedAgain() {
        SaywhatSeen x = underWay(1);
        x.tick(5);
        for (int i = 0; i < 3; i++) {
            x.speak(true);
            x.speak(false);
            x.tick(3);
            due("cued again", x.cue(0), 10);
            due("from its beginning", x.tick(9), 0);
        }
        due("to its end", x.tick(1), 1);
    }

    // ---- promise 31: call

    /** "person: 0 to 9", "Returns whether that one was named." */
    static void p31FirstAndLastPerson() {
        SaywhatSeen x = live(0);
        for (int person = 0; person < 10; person++) {
            due("call(" + person + ")", x.call(person), false);
            due("call(" + person + ") again", x.call(person), true);
        }
    }

    /** "IllegalArgumentException if there is no such person" */
    static void p31NoSuchPerson() {
        for (int person : new int[] {-1, 10, LOW, HIGH}) {
            refusedLiving("call(" + person + ")", ARGUMENT, x -> x.call(person));
            refused(() -> live(0), "call(" + person + ") without facts", ARGUMENT, x -> x.call(person));
        }
    }

    /** "IllegalStateException if no stage is live", and ahead of the person */
    static void p31NoStage() {
        for (int person : new int[] {0, 9, -1, 10, LOW, HIGH}) {
            refused(SaywhatSeen::new, "call(" + person + ")", STATE, x -> x.call(person));
        }
    }

    /** Whom the film names is not named on the stage by that, nor the other way round. */
    static void p31FilmAndStageApart() {
        SaywhatSeen x = withTexts(1);
        x.names(0, 0);
        x.named(0, 0);
        x.live();
        fails("named by the film alone", UNSUPPORTED, () -> x.cue(0));
        due("not yet", x.call(0), false);
        due("named on the stage", x.cue(0), 10);
        SaywhatSeen y = withTexts(1);
        y.names(0, 9);
        y.live();
        y.call(9);
        due("named on the stage alone", y.cue(0), 10);
        due("the film names nobody by that", y.named(9, -1), -1);
    }

    // ---- promise 32: cue

    /** "Returns how many ticks it takes.": the fewest, the most, of the first version */
    static void p32FewestAndMostTicks() {
        SaywhatSeen x = new SaywhatSeen();
        x.fact(0, 600, 1, 0, true);
        x.fact(0, 1, 1, 0, true);
        x.version(0, 1);
        x.version(0, 2);
        x.version(1, 80);
        x.voice(9, 0);
        x.live();
        due("1 syllable at 9", x.cue(0), 2);
        due("it ends", x.tick(2), 1);
        x.voice(2, 0);
        due("80 syllables at 2, more than the film allows", x.cue(1), 400);
        due("not yet", x.tick(200) + x.tick(199), 0);
        due("it ends", x.tick(1), 1);
    }

    /** "IllegalStateException if no stage is live", ahead of all others */
    static void p32NoStage() {
        refused(() -> withTexts(1), "cue(0)", STATE, x -> x.cue(0));
        for (int fact : NO_FACTS) {
            refused(() -> withTexts(1), "cue(" + fact + ")", STATE, x -> x.cue(fact));
            refused(SaywhatSeen::new, "cue(" + fact + ")", STATE, x -> x.cue(fact));
        }
    }

    /** "IndexOutOfBoundsException if there is no such fact", ahead of what else holds a cue */
    static void p32NoSuchFact() {
        for (int fact : NO_FACTS) {
            refusedLiving("cue(" + fact + ")", INDEX, x -> x.cue(fact));
            refused(() -> live(0), "cue(" + fact + ") of none", INDEX, x -> x.cue(fact));
        }
        refused(Worlds::busy, "cue(5) of five", INDEX, x -> x.cue(5));
        refused(Worlds::speaking, "cue(5) of five", INDEX, x -> x.cue(5));
    }

    /** "UnsupportedOperationException if it has no text" */
    static void p32NoText() {
        Worlds.Made world = () -> {
            SaywhatSeen x = live(1);
            x.fact(0, 600, 1, 0, true);
            return x;
        };
        refused(world, "cue(1)", UNSUPPORTED, x -> x.cue(1));
        due("the other one", world.anew().cue(0), 10);
        SaywhatSeen x = world.anew();
        x.version(1, 4);
        due("with its text", x.cue(1), 10);
    }

    /** "or cannot start": "if no text is under way" */
    static void p32OneIsUnderWay() {
        refused(() -> underWay(2), "the same one", UNSUPPORTED, x -> x.cue(0));
        refused(() -> underWay(2), "another one", UNSUPPORTED, x -> x.cue(1));
        Worlds.Made late = () -> {
            SaywhatSeen x = underWay(2);
            x.tick(9);
            return x;
        };
        refused(late, "another one in the last tick", UNSUPPORTED, x -> x.cue(1));
    }

    /** "nobody speaks" */
    static void p32SomebodySpeaks() {
        Worlds.Made world = () -> {
            SaywhatSeen x = live(1);
            x.speak(true);
            return x;
        };
        refused(world, "cue(0)", UNSUPPORTED, x -> x.cue(0));
        SaywhatSeen x = world.anew();
        x.tick(200);
        fails("still", UNSUPPORTED, () -> x.cue(0));
        x.speak(false);
        due("nobody any more", x.cue(0), 10);
    }

    /** "as many ticks as the breath of now went by ... since the last one ended" */
    static void p32BreathSinceTheEnd() {
        for (int breath : new int[] {0, 1, 3, 19, 20}) {
            SaywhatSeen x = told(2);
            x.voice(4, breath);
            for (int i = 0; i < breath; i++) {
                fails(i + " ticks of a breath of " + breath, UNSUPPORTED, () -> x.cue(1));
                x.tick(1);
            }
            due("a breath of " + breath, x.cue(1), 10);
        }
    }

    /** "or was broken off": by speech, "with or without speech" */
    static void p32BreathSinceItWasBrokenOff() {
        for (int breath : new int[] {0, 1, 3, 20}) {
            SaywhatSeen in = underWay(2);
            in.voice(4, breath);
            in.tick(7);
            in.speak(true);
            for (int i = 0; i < breath; i++) {
                in.speak(false);
                fails(i + " ticks in speech, of " + breath, UNSUPPORTED, () -> in.cue(1));
                in.speak(true);
                in.tick(1);
            }
            in.speak(false);
            due("a breath of " + breath + " in speech", in.cue(1), 10);
            SaywhatSeen out = underWay(2);
            out.voice(4, breath);
            out.speak(true);
            out.speak(false);
            for (int i = 0; i < breath; i++) {
                fails(i + " ticks without speech, of " + breath, UNSUPPORTED, () -> out.cue(0));
                out.tick(1);
            }
            due("a breath of " + breath + " without speech", out.cue(0), 10);
        }
    }

    /** "the breath of now": what it was when the last text ended is of no account. */
    static void p32BreathOfNow() {
        SaywhatSeen x = told(3);
        x.tick(3);
        x.voice(4, 4);
        fails("a longer one", UNSUPPORTED, () -> x.cue(1));
        x.voice(4, 3);
        due("the one before", x.cue(1), 10);
        x.tick(10);
        fails("none yet", UNSUPPORTED, () -> x.cue(2));
        x.voice(4, 0);
        due("no breath", x.cue(2), 10);
    }

    /** Ticks that pass behind the end of a text, in the same call, are of the breath, too. */
    static void p32BreathInTheSameCall() {
        for (int behind = 0; behind <= 4; behind++) {
            SaywhatSeen x = underWay(2);
            x.tick(10 + behind);
            Object due = behind < 3 ? "throws UnsupportedOperationException" : (Object) 10;
            due(behind + " ticks behind the end", Checks.answerOf(() -> x.cue(1)), due);
        }
    }

    /** Many ticks may go by: 512 calls let some 100,000 pass. */
    static void p32ManyTicks() {
        SaywhatSeen x = told(2);
        for (int i = 0; i < 400; i++) {
            x.tick(200);
        }
        due("the breath went by", x.cue(1), 10);
    }

    /** "it was not told" */
    static void p32ItWasNotTold() {
        Worlds.Made world = () -> {
            SaywhatSeen x = told(2);
            x.tick(3);
            return x;
        };
        refused(world, "cue(0)", UNSUPPORTED, x -> x.cue(0));
        due("the other one", world.anew().cue(1), 10);
        SaywhatSeen x = world.anew();
        x.version(0, 5);
        x.names(0, -1);
        fails("with one more version", UNSUPPORTED, () -> x.cue(0));
        x.live();
        due("on the next stage", x.cue(0), 10);
    }

    /** "and, if it names a person, that person was named on the stage" */
    static void p32PersonWasNamed() {
        for (int person : new int[] {0, 9}) {
            Worlds.Made world = () -> {
                SaywhatSeen x = live(2);
                x.names(0, person);
                for (int other = 0; other < 10; other++) {
                    if (other != person) {
                        x.call(other);
                    }
                }
                return x;
            };
            refused(world, "person " + person + " is not named", UNSUPPORTED, x -> x.cue(0));
            due("one who names nobody", world.anew().cue(1), 10);
            SaywhatSeen x = world.anew();
            x.call(person);
            due("person " + person + " is named", x.cue(0), 10);
        }
    }

    /** Whether the text could be placed in the film is of no account on a stage. */
    static void p32FilmIsOfNoAccount() {
        SaywhatSeen x = ofTicks(1);
        x.fact(0, 1, 1, 0, false);
        x.version(0, 80);
        x.sound('s', 0, 1);
        x.live();
        due("200 ticks in a film of one", x.cue(0), 200);
        due("they pass", x.tick(200), 1);
    }

    // ---- promise 33: tick

    /** "ticks: 1 to 200" */
    static void p33OneAnd200() {
        SaywhatSeen x = new SaywhatSeen();
        x.fact(0, 600, 1, 0, true);
        x.version(0, 79);
        x.live();
        due("198 ticks", x.cue(0), 198);
        for (int i = 0; i < 197; i++) {
            due("tick(1)", x.tick(1), 0);
        }
        due("the last tick", x.tick(1), 1);
        x.live();
        x.cue(0);
        due("tick(200)", x.tick(200), 1);
    }

    /** "IllegalArgumentException if a number is out of range" */
    static void p33NoSuchNumber() {
        for (int ticks : new int[] {0, 201, -1, LOW, HIGH}) {
            refusedLiving("tick(" + ticks + ")", ARGUMENT, x -> x.tick(ticks));
            refused(() -> live(0), "tick(" + ticks + ")", ARGUMENT, x -> x.tick(ticks));
        }
    }

    /** "IllegalStateException if no stage is live", and ahead of the range */
    static void p33NoStage() {
        for (int ticks : new int[] {1, 200, 0, 201, LOW, HIGH}) {
            refused(() -> withTexts(2), "tick(" + ticks + ")", STATE, x -> x.tick(ticks));
        }
    }

    /** "and ends when all its ticks are done; then it is told" */
    static void p33AllItsTicks() {
        for (int ticks = 1; ticks <= 12; ticks++) {
            SaywhatSeen x = underWay(1);
            due("tick(" + ticks + ") of 10", x.tick(ticks), ticks < 10 ? 0 : 1);
            due("told then", x.told(0), ticks < 10 ? 'u' : 't');
            due("the rest", x.tick(200), ticks < 10 ? 1 : 0);
        }
    }

    /** "Returns how many texts ended by that.": none without a text, with or without speech */
    static void p33NoneWithoutAText() {
        SaywhatSeen x = live(1);
        due("without a cue", x.tick(200), 0);
        x.speak(true);
        due("in speech", x.tick(200), 0);
        due("without facts", live(0).tick(1), 0);
    }

    /** "with as many ticks as it takes then": another voice does not change a text under way. */
    static void p33AsManyAsItTookThen() {
        SaywhatSeen x = underWay(1);
        x.voice(9, 0);
        due("not at the new speed", x.tick(5), 0);
        x.voice(2, 0);
        due("nor at another one", x.tick(4), 0);
        due("as at first", x.tick(1), 1);
    }

    // ---- promise 34: told

    /** "'-' nothing, 'u' under way, 't' told, 'l' lost last": of the first fact and of the last one */
    static void p34EachOfFour() {
        for (int fact : new int[] {0, 9}) {
            SaywhatSeen x = live(10);
            due("nothing", x.told(fact), '-');
            x.cue(fact);
            due("under way", x.told(fact), 'u');
            x.speak(true);
            due("lost", x.told(fact), 'l');
            x.speak(false);
            x.tick(3);
            due("lost still", x.told(fact), 'l');
            x.cue(fact);
            due("under way again", x.told(fact), 'u');
            x.tick(10);
            due("told", x.told(fact), 't');
            due("another one", x.told(5), '-');
        }
    }

    /** A full stage: all ten are told, by all the ticks that they take, and none can be cued any more. */
    static void p34AllTen() {
        SaywhatSeen x = live(10);
        x.voice(4, 0);
        for (int i = 0; i < 10; i++) {
            due("cue(" + i + ")", x.cue(i), 10);
            due("its ticks", x.tick(10), 1);
        }
        for (int i = 0; i < 10; i++) {
            int fact = i;
            due("told(" + i + ")", x.told(i), 't');
            fails("cue(" + i + ") again", UNSUPPORTED, () -> x.cue(fact));
        }
        due("nothing more ends", x.tick(200), 0);
    }

    /** A fact without a text, and one that is told behind the beginning, are there, too. */
    static void p34FactsWithoutTexts() {
        SaywhatSeen x = live(0);
        x.fact(0, 600, 1, 0, true);
        due("nothing", x.told(0), '-');
    }

    /** "IndexOutOfBoundsException if there is no such fact" */
    static void p34NoSuchFact() {
        for (int fact : NO_FACTS) {
            refusedLiving("told(" + fact + ")", INDEX, x -> x.told(fact));
        }
        refused(() -> live(0), "told(0) of none", INDEX, x -> x.told(0));
        refused(Worlds::busy, "told(5) of five", INDEX, x -> x.told(5));
        Worlds.Made dropped = () -> {
            SaywhatSeen x = told(10);
            x.drop(0);
            return x;
        };
        refused(dropped, "told(0), dropped", INDEX, x -> x.told(0));
    }

    /** "IllegalStateException if no stage is live", and ahead of the fact */
    static void p34NoStage() {
        refused(() -> withTexts(1), "told(0)", STATE, x -> x.told(0));
        for (int fact : NO_FACTS) {
            refused(() -> withTexts(1), "told(" + fact + ")", STATE, x -> x.told(fact));
        }
    }
}
