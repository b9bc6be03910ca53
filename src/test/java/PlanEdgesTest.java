/** The edges that the promises 18 to 24 name, a test for each; the comments are the document's words. */
public final class PlanEdgesTest extends Edges {
    public static void main(String[] args) throws IllegalAccessException {
        Checks.runAll(PlanEdgesTest.class);
    }

    /** A film of so many ticks with facts over all of it; each has a weight, and a text of 10 ticks. */
    private static SaywhatSeen weighing(int ticks, int... weights) {
        SaywhatSeen x = ofTicks(ticks);
        for (int i = 0; i < weights.length; i++) {
            x.fact(0, ticks, weights[i], 0, true);
            x.version(i, 4);
        }
        return x;
    }

    private static SaywhatSeen planned(SaywhatSeen x) {
        x.plan();
        return x;
    }

    /** The facts of the plan, as bits. */
    private static int setOf(SaywhatSeen x) {
        int set = 0;
        int count = x.plan();
        for (int i = 0; i < count; i++) {
            set |= 1 << x.planned(i);
        }
        return set;
    }

    // ---- promise 18: plan, what it is of

    /** "Returns how many facts are told.": none */
    static void p18NoFactIsTold() {
        due("without facts", new SaywhatSeen().plan(), 0);
        SaywhatSeen x = new SaywhatSeen();
        x.fact(0, 600, 99, 0, true);
        due("without a text", x.plan(), 0);
        x.version(0, 80);
        x.film(600);
        x.sound('s', 0, 600);
        due("without a gap", x.plan(), 0);
        due("there is a plan, though", x.weight(), 0);
    }

    /** "Returns how many facts are told.": all */
    static void p18AllFactsAreTold() {
        for (int many = 1; many <= 10; many++) {
            SaywhatSeen x = withTexts(many);
            due("all of " + many, x.plan(), many);
            due("the last one starts", x.start(0), 13 * (many - 1));
        }
    }

    /** Ten facts just fit into 127 ticks, and not into a tick less. */
    static void p18TenJustFit() {
        int[] weights = {5, 5, 5, 5, 5, 5, 5, 5, 5, 5};
        due("in 127 ticks", weighing(127, weights).plan(), 10);
        due("in 126 ticks", weighing(126, weights).plan(), 9);
    }

    /** "A set of facts can be told if all have texts" */
    static void p18AllHaveTexts() {
        SaywhatSeen x = weighing(600, 5, 5);
        x.fact(0, 600, 99, 0, true);
        due("without that one", setOf(x), 3);
        x.version(2, 4);
        due("with its text", setOf(x), 7);
    }

    /** "no two are of one thing by unlike terms" */
    static void p18UnlikeTerms() {
        for (int thing : new int[] {0, 9}) {
            SaywhatSeen x = weighing(600, 5, 6, 7);
            x.thing(0, thing, 0);
            x.thing(2, thing, 9);
            due("unlike terms of thing " + thing, setOf(x), 6);
            x.thing(0, thing, 9);
            due("like terms of thing " + thing, setOf(x), 7);
            x.thing(0, 9 - thing, 0);
            due("unlike things", setOf(x), 7);
            x.thing(0, thing, 8);
            x.thing(1, thing, 8);
            due("two against one", setOf(x), 3);
            x.thing(2, -1, 0);
            due("without a thing", setOf(x), 7);
        }
    }

    /** "The plan is the way of the set with the greatest sum of weights" */
    static void p18GreatestSum() {
        due("99 against 1", setOf(weighing(10, 1, 99)), 2);
        due("two against one that is greater", setOf(twoOrOne(5, 5, 11)), 4);
        due("two against one that is less", setOf(twoOrOne(5, 5, 9)), 3);
    }

    /** The first two facts fit into the film together, or the third one alone. */
    private static SaywhatSeen twoOrOne(int first, int second, int third) {
        SaywhatSeen x = weighing(23, first, second);
        x.fact(0, 23, third, 0, true);
        x.version(2, 9);
        return x;
    }

    /** "of like ones that with the fewest facts" */
    static void p18FewestFacts() {
        due("two against one as great", setOf(twoOrOne(5, 5, 10)), 4);
        SaywhatSeen x = ofTicks(23);
        x.fact(0, 23, 10, 0, true);
        x.version(0, 9);
        x.fact(0, 23, 5, 0, true);
        x.version(1, 4);
        x.fact(0, 23, 5, 0, true);
        x.version(2, 4);
        due("one against two as great", setOf(x), 1);
    }

    /** "then that which, as bits, is the lowest number" */
    static void p18LowestNumber() {
        due("one of ten", setOf(weighing(10, 5, 5, 5, 5, 5, 5, 5, 5, 5, 5)), 1);
        due("two of ten", setOf(weighing(23, 5, 5, 5, 5, 5, 5, 5, 5, 5, 5)), 3);
        due("nine of ten", setOf(weighing(126, 5, 5, 5, 5, 5, 5, 5, 5, 5, 5)), 511);
        due("0 and 1, or 2 and 3", setOf(inPairs(0, 0, 1, 1)), 3);
        due("0 and 3, or 1 and 2", setOf(inPairs(0, 1, 1, 0)), 6);
        due("0 and 2, or 1 and 3", setOf(inPairs(0, 1, 0, 1)), 5);
    }

    /** Four facts of one thing, of like weight: those of like terms can be told together. */
    private static SaywhatSeen inPairs(int... terms) {
        SaywhatSeen x = weighing(600, 5, 5, 5, 5);
        for (int i = 0; i < 4; i++) {
            x.thing(i, 1, terms[i]);
        }
        return x;
    }

    // ---- promise 18: plan, the way

    /** "The way of nothing ends so that any tick can follow, without a breath." */
    static void p18FirstNeedsNoBreath() {
        for (int breath : new int[] {0, 20}) {
            SaywhatSeen x = withTexts(1);
            x.voice(4, breath);
            x.plan();
            due("the start with a breath of " + breath, x.start(0), 0);
        }
    }

    /** "Two texts have a breath between them at least." */
    static void p18BreathBetween() {
        for (int breath : new int[] {0, 1, 3, 20}) {
            SaywhatSeen x = weighing(20 + breath, 5, 5);
            x.voice(4, breath);
            due("room for a breath of " + breath, x.plan(), 2);
            due("the second start", x.start(0), 10 + breath);
            if (breath < 20) {
                x.voice(4, breath + 1);
                due("a tick is missing", x.plan(), 1);
            }
        }
    }

    /** "starting as early as it can behind that and the breath" */
    static void p18AsEarlyAsItCan() {
        SaywhatSeen x = new SaywhatSeen();
        x.fact(0, 10, 5, 0, true);
        x.version(0, 4);
        x.fact(20, 600, 5, 7, true);
        x.version(1, 4);
        x.plan();
        due("behind the breath", x.start(1), 13);
        x.voice(4, 2);
        x.plan();
        due("not further ahead", x.start(1), 13);
        x.voice(4, 4);
        x.plan();
        due("behind a longer breath", x.start(1), 14);
        x.sound('s', 23, 24);
        x.plan();
        due("behind a sound", x.start(1), 24);
    }

    /** "the last one is that by which it ends first" */
    static void p18LastIsThatByWhichItEndsFirst() {
        SaywhatSeen x = new SaywhatSeen();
        x.voice(4, 0);
        x.fact(5, 600, 5, 0, true);
        x.version(0, 4);
        x.fact(0, 600, 5, 0, true);
        x.version(1, 4);
        x.plan();
        due("1 ahead of 0", x.planned(0), 1);
        due("0 at", x.start(0), 10);
        SaywhatSeen y = new SaywhatSeen();
        y.voice(4, 0);
        y.fact(0, 600, 5, 0, true);
        y.version(0, 4);
        y.fact(5, 600, 5, 0, true);
        y.version(1, 4);
        y.plan();
        due("0 ahead of 1", y.planned(0), 0);
        due("1 at", y.start(1), 10);
    }

    /** "of like ones the lowest" */
    static void p18OfLikeEndsTheLowestIsLast() {
        SaywhatSeen x = withTexts(3);
        x.plan();
        due("the last one", x.planned(2), 0);
        due("the one ahead", x.planned(1), 1);
        due("the first one", x.planned(0), 2);
        SaywhatSeen y = withTexts(10);
        y.plan();
        for (int i = 0; i < 10; i++) {
            due("of ten, place " + i, y.planned(i), 9 - i);
        }
    }

    /** "of all for which the set without it has a way and it can start so": the one in haste goes ahead. */
    static void p18OneInHaste() {
        SaywhatSeen x = new SaywhatSeen();
        x.fact(0, 10, 5, 0, true);
        x.version(0, 4);
        x.fact(0, 600, 5, 0, true);
        x.version(1, 4);
        due("both", x.plan(), 2);
        due("the one in haste", x.start(0), 0);
        SaywhatSeen none = new SaywhatSeen();
        none.fact(0, 22, 5, 0, true);
        none.version(0, 4);
        none.fact(0, 22, 5, 0, true);
        none.version(1, 4);
        due("a tick is missing for both", none.plan(), 1);
    }

    /** A way may end where the film does, at 900 ticks too. */
    static void p18UpToTheEndOfTheFilm() {
        SaywhatSeen x = ofTicks(900);
        x.fact(877, 900, 5, 0, true);
        x.version(0, 4);
        x.fact(890, 900, 5, 0, true);
        x.version(1, 4);
        due("two at the end", x.plan(), 2);
        due("the first one", x.start(0), 877);
        due("the second one", x.start(1), 890);
        x.voice(4, 4);
        due("a longer breath", x.plan(), 1);
        SaywhatSeen y = ofTicks(900);
        y.fact(890, 900, 5, 0, true);
        y.version(0, 4);
        y.fact(0, 900, 5, 0, true);
        y.version(1, 1);
        y.sound('s', 0, 890);
        y.voice(4, 20);
        due("nothing behind the end", y.plan(), 1);
    }

    /** What could follow a breath behind a text may be a tick of the film, its end, or behind that. */
    static void p18BreathUpToTheEnd() {
        for (int i = 0; i <= 41; i++) {
            int breath = i / 2;
            SaywhatSeen x = ofTicks(900);
            x.fact(880, 890, 9, 0, true);
            x.version(0, 4);
            x.fact(0, 900, 5, 0, i % 2 == 0);
            x.version(1, 1);
            x.sound('s', 0, 880);
            x.voice(4, breath);
            due("with a breath of " + breath, x.plan(), 890 + breath + 3 <= 900 ? 2 : 1);
            due("the first start", x.start(0), 880);
            due("both, with a breath of " + breath, x.canTell(3), 890 + breath + 3 <= 900);
        }
    }

    // ---- promise 18: plan, the versions

    /** "the longest version that can start there, ends a breath ahead of the next one" */
    static void p18BreathAheadOfTheNext() {
        for (int start = 19; start <= 25; start++) {
            SaywhatSeen x = new SaywhatSeen();
            x.fact(0, 600, 5, 0, true);
            x.version(0, 4);
            x.version(0, 7);
            x.version(0, 8);
            x.fact(start, start + 10, 5, 0, true);
            x.version(1, 4);
            x.plan();
            due("the next one at", x.start(1), start);
            due("the version ahead of " + start, x.versionOf(0), start < 21 ? 0 : start < 23 ? 1 : 2);
        }
    }

    /** "and is told by then" */
    static void p18ToldByThen() {
        for (int by = 19; by <= 21; by++) {
            SaywhatSeen x = new SaywhatSeen();
            x.fact(0, by, 5, 0, true);
            x.version(0, 4);
            x.version(0, 8);
            x.plan();
            due("the version by " + by, x.versionOf(0), by < 20 ? 0 : 1);
        }
    }

    /** "that can start there": up to a sound, or the end of the film */
    static void p18CanStartThere() {
        for (int at = 19; at <= 21; at++) {
            SaywhatSeen x = withTexts(1);
            x.version(0, 8);
            x.sound('s', at, at + 1);
            x.plan();
            due("the version ahead of a sound at " + at, x.versionOf(0), at < 20 ? 0 : 1);
            SaywhatSeen film = weighing(at, 5);
            film.version(0, 8);
            film.plan();
            due("the version in a film of " + at, film.versionOf(0), at < 20 ? 0 : 1);
        }
    }

    /** "the longest": the third one if it can, and of two the second one; the last text has no next one. */
    static void p18TheLongest() {
        SaywhatSeen x = withTexts(2);
        x.version(0, 5);
        x.version(0, 80);
        x.version(1, 5);
        x.plan();
        due("the last text, of three", x.versionOf(0), 2);
        due("the first text, of two", x.versionOf(1), 0);
        x.drop(0);
        x.plan();
        due("alone, of two", x.versionOf(1), 1);
        SaywhatSeen gap = withTexts(1);
        gap.version(0, 8);
        gap.version(0, 9);
        gap.sound('s', 20, 21);
        gap.plan();
        due("the second one of three", gap.versionOf(0), 1);
    }

    /** Longer versions do not move what comes behind: it starts behind the first version and the breath. */
    static void p18NextStartsBehindTheFirstVersion() {
        SaywhatSeen x = withTexts(2);
        x.version(1, 80);
        x.plan();
        due("the start of the second", x.start(0), 13);
        due("the version of the first", x.versionOf(1), 0);
    }

    // ---- promise 18: plan, how long it stays

    /** "A plan stays until the next one" */
    static void p18UntilTheNextOne() {
        SaywhatSeen x = withTexts(2);
        x.plan();
        due("the next one", x.plan(), 2);
        due("is like it", x.weight(), 10);
    }

    private static void ends(String call, Asked asked) {
        SaywhatSeen x = planForTold();
        x.plan();
        asked.of(x);
        fails("weight() behind " + call, STATE, () -> x.weight());
        fails("loss() behind " + call, STATE, () -> x.loss());
        fails("planned(0) behind " + call, STATE, () -> x.planned(0));
        fails("start(0) behind " + call, STATE, () -> x.start(0));
        fails("versionOf(0) behind " + call, STATE, () -> x.versionOf(0));
        due("isSound() behind " + call, x.isSound(), true);
    }

    private static void keeps(String call, Asked asked) {
        SaywhatSeen x = planForTold();
        x.plan();
        asked.of(x);
        due("weight() behind " + call, x.weight(), 10);
        due("loss() behind " + call, x.loss(), 5);
        due("planned(0) behind " + call, x.planned(0), 1);
        due("start(0) behind " + call, x.start(0), 13);
        due("versionOf(0) behind " + call, x.versionOf(0), 0);
    }

    private static SaywhatSeen planForTold() {
        SaywhatSeen x = withTexts(2);
        x.fact(0, 600, 5, 0, true);
        x.sound('g', 0, 5);
        x.named(0, 5);
        x.names(0, -1);
        x.thing(0, -1, 0);
        x.edition();
        x.live();
        return x;
    }

    /** "or until something of the film ... is told, be it as it was" */
    static void p18UntilTheFilmIsTold() {
        ends("film", x -> x.film(600));
        ends("another film", x -> x.film(601));
        ends("sound", x -> x.sound('g', 500, 501));
        ends("unsound", x -> x.unsound());
        ends("named", x -> x.named(0, 5));
        ends("named, never", x -> x.named(9, -1));
    }

    /** "of facts ... be it as it was" */
    static void p18UntilFactsAreTold() {
        ends("fact", x -> x.fact(0, 1, 1, 0, true));
        ends("drop", x -> x.drop(2));
        ends("names", x -> x.names(2, -1));
        ends("thing", x -> x.thing(2, -1, 0));
        ends("version", x -> x.version(2, 80));
    }

    /** "or of the voice is told, be it as it was" */
    static void p18UntilTheVoiceIsTold() {
        ends("voice", x -> x.voice(4, 3));
        ends("another voice", x -> x.voice(9, 0));
    }

    /** "or recut, or an edition is used" */
    static void p18UntilARecutOrAnEdition() {
        ends("cut", x -> x.cut(599, 1));
        ends("insert", x -> x.insert(600, 1));
        ends("use", x -> x.use(0));
    }

    /** Nothing else ends it: no question, no edition that is kept, no stage, no mark. */
    static void p18NothingElseEndsIt() {
        keeps("nothing", x -> x);
        keeps("sounds", x -> x.sounds());
        keeps("gaps", x -> x.gaps(true) + x.gapAt(true, 0, true));
        keeps("ticks", x -> x.ticks(0, 0));
        keeps("canStart", x -> x.canStart(0, 0, 0));
        keeps("firstStart", x -> x.firstStart(0, 0, 0));
        keeps("canTell", x -> x.canTell(1) && x.canTell(3));
        keeps("edition", x -> x.edition());
        keeps("live", x -> x.live());
        keeps("speak", x -> x.speak(true));
        keeps("call", x -> x.call(0));
        keeps("cue", x -> x.cue(0));
        keeps("tick", x -> x.tick(200));
        keeps("told", x -> x.told(0));
        keeps("mark", x -> x.mark(0, 0, 0));
        keeps("checksum", x -> x.checksum());
        keeps("isSound", x -> x.isSound());
    }

    /** "A method that throws an exception changes nothing." */
    static void p18ARefusedCallDoesNotEndIt() {
        keeps("film", x -> Checks.answerOf(() -> x.film(4)));
        keeps("sound", x -> Checks.answerOf(() -> x.sound('s', 0, 601)));
        keeps("named", x -> Checks.answerOf(() -> x.named(10, 0)));
        keeps("voice", x -> Checks.answerOf(() -> x.voice(4, 21)));
        keeps("fact", x -> Checks.answerOf(() -> x.fact(0, 601, 1, 0, true)));
        keeps("drop", x -> Checks.answerOf(() -> x.drop(3)));
        keeps("names", x -> Checks.answerOf(() -> x.names(0, 10)));
        keeps("thing", x -> Checks.answerOf(() -> x.thing(0, 10, 0)));
        keeps("version", x -> Checks.answerOf(() -> x.version(0, 4)));
        keeps("cut", x -> Checks.answerOf(() -> x.cut(0, 600)));
        keeps("insert", x -> Checks.answerOf(() -> x.insert(0, 301)));
        keeps("use", x -> Checks.answerOf(() -> x.use(1)));
    }

    // ---- promise 19: weight

    /** "Returns the sum of weights of the plan.": the least, one, and the most that there are */
    static void p19LeastAndMost() {
        due("of an empty plan", planned(new SaywhatSeen()).weight(), 0);
        due("of one", planned(weighing(600, 1)).weight(), 1);
        due("of ten", planned(weighing(600, 99, 99, 99, 99, 99, 99, 99, 99, 99, 99)).weight(), 990);
    }

    /** Of those that are in the plan alone. */
    static void p19OfThePlanAlone() {
        due("of one of two", planned(weighing(10, 7, 30)).weight(), 30);
        SaywhatSeen x = weighing(600, 7, 30);
        x.fact(0, 600, 99, 0, true);
        due("without one without a text", planned(x).weight(), 37);
    }

    /** "IllegalStateException if there is no plan" */
    static void p19NoPlan() {
        refused(SaywhatSeen::new, "weight()", STATE, x -> x.weight());
        refused(() -> withTexts(10), "weight()", STATE, x -> x.weight());
    }

    // ---- promise 20: loss

    /** "Returns the sum of weights of facts that are not in the plan.": none, some, all */
    static void p20NoneSomeAll() {
        due("of no facts", planned(new SaywhatSeen()).loss(), 0);
        due("of none", planned(weighing(600, 99, 99)).loss(), 0);
        due("of one of two", planned(weighing(10, 7, 30)).loss(), 7);
        due("of all", planned(weighing(9, 99, 99, 99, 99, 99, 99, 99, 99, 99, 99)).loss(), 990);
    }

    /** Facts without texts are not in the plan. */
    static void p20WithoutTexts() {
        SaywhatSeen x = weighing(600, 7);
        x.fact(0, 600, 99, 0, true);
        due("of one without a text", planned(x).loss(), 99);
        x.drop(1);
        due("as it is dropped", planned(x).loss(), 0);
    }

    /** "IllegalStateException if there is no plan" */
    static void p20NoPlan() {
        refused(SaywhatSeen::new, "loss()", STATE, x -> x.loss());
        refused(() -> withTexts(10), "loss()", STATE, x -> x.loss());
    }

    // ---- promise 21: planned

    /** "index: the index, from 0", "in the order of starts" */
    static void p21FirstAndLastIndex() {
        due("of one", planned(withTexts(1)).planned(0), 0);
        SaywhatSeen x = ofTicks(600);
        for (int i = 0; i < 10; i++) {
            x.fact(20 * (i * 3 % 10), 600, 5, 0, true);
            x.version(i, 4);
        }
        x.plan();
        for (int i = 0; i < 10; i++) {
            due("place " + i, x.planned(i), i * 7 % 10);
        }
    }

    /** "NoSuchElementException if there is none" */
    static void p21NoSuchIndex() {
        for (int index : new int[] {-1, 10, LOW, HIGH}) {
            refusedLiving("index " + index, ELEMENT, x -> x.planned(index));
            refused(() -> planned(withTexts(10)), "index " + index + " of ten", ELEMENT, x -> x.planned(index));
        }
        refused(() -> planned(withTexts(1)), "index 1 of one", ELEMENT, x -> x.planned(1));
        refused(() -> planned(withTexts(9)), "index 9 of nine", ELEMENT, x -> x.planned(9));
        refused(() -> planned(new SaywhatSeen()), "index 0 of none", ELEMENT, x -> x.planned(0));
        refused(() -> planned(weighing(10, 5, 5)), "index 1 of one of two", ELEMENT, x -> x.planned(1));
    }

    /** A plan that is shorter than the one before has nothing of that one. */
    static void p21ShorterThanBefore() {
        SaywhatSeen x = planned(withTexts(10));
        for (int i = 1; i < 10; i++) {
            x.drop(i);
        }
        x.plan();
        due("the one left", x.planned(0), 0);
        for (int i = 1; i < 10; i++) {
            int index = i;
            fails("index " + i, ELEMENT, () -> x.planned(index));
        }
    }

    /** "IllegalStateException if there is no plan", and ahead of the index */
    static void p21NoPlan() {
        refused(() -> withTexts(1), "index 0", STATE, x -> x.planned(0));
        refused(() -> withTexts(1), "index -1", STATE, x -> x.planned(-1));
        refused(SaywhatSeen::new, "index HIGH", STATE, x -> x.planned(HIGH));
    }

    // ---- promise 22: start

    /** "Returns the start of a fact.": the first tick and the last one that there are */
    static void p22FirstAndLastStart() {
        due("at 0", planned(withTexts(1)).start(0), 0);
        SaywhatSeen x = ofTicks(900);
        for (int i = 0; i < 10; i++) {
            x.fact(898, 900, 5, 0, true);
        }
        x.version(9, 1);
        x.voice(9, 0);
        due("at 898", planned(x).start(9), 898);
    }

    /** "NoSuchElementException if it is not in the plan" */
    static void p22NotInThePlan() {
        refused(() -> planned(weighing(10, 5, 6)), "start(0)", ELEMENT, x -> x.start(0));
        refused(Worlds::busy, "start of one without a text", ELEMENT, x -> x.start(3));
        refused(() -> planned(weighing(9, 5)), "start in an empty plan", ELEMENT, x -> x.start(0));
    }

    /** "IndexOutOfBoundsException if there is no such fact", and ahead of the plan's facts */
    static void p22NoSuchFact() {
        for (int fact : new int[] {-1, 10, LOW, HIGH}) {
            refusedLiving("start(" + fact + ")", INDEX, x -> x.start(fact));
        }
        refused(Worlds::busy, "start(5) of five", INDEX, x -> x.start(5));
        refused(() -> planned(new SaywhatSeen()), "start(0) of none", INDEX, x -> x.start(0));
    }

    /** "IllegalStateException if there is no plan", ahead of all others */
    static void p22NoPlan() {
        refused(() -> withTexts(1), "start(0)", STATE, x -> x.start(0));
        refused(() -> withTexts(1), "start(1)", STATE, x -> x.start(1));
        refused(SaywhatSeen::new, "start(-1)", STATE, x -> x.start(-1));
        refused(SaywhatSeen::new, "start(10)", STATE, x -> x.start(10));
    }

    // ---- promise 23: versionOf

    /** "Returns the version of a fact in the plan.": the first one and the last one */
    static void p23FirstAndLastVersion() {
        SaywhatSeen x = withTexts(10);
        for (int i = 0; i < 10; i += 9) {
            x.version(i, 5);
            x.version(i, 6);
        }
        x.plan();
        due("of fact 9, the first one", x.versionOf(9), 0);
        due("of fact 0, the last one", x.versionOf(0), 2);
    }

    /** "NoSuchElementException if it is not in the plan" */
    static void p23NotInThePlan() {
        refused(() -> planned(weighing(10, 5, 6)), "versionOf(0)", ELEMENT, x -> x.versionOf(0));
        refused(Worlds::busy, "versionOf one without a text", ELEMENT, x -> x.versionOf(3));
        refused(() -> planned(weighing(9, 5)), "versionOf in an empty plan", ELEMENT, x -> x.versionOf(0));
    }

    /** "IndexOutOfBoundsException if there is no such fact", and ahead of the plan's facts */
    static void p23NoSuchFact() {
        for (int fact : new int[] {-1, 10, LOW, HIGH}) {
            refusedLiving("versionOf(" + fact + ")", INDEX, x -> x.versionOf(fact));
        }
        refused(Worlds::busy, "versionOf(5) of five", INDEX, x -> x.versionOf(5));
        refused(() -> planned(new SaywhatSeen()), "versionOf(0) of none", INDEX, x -> x.versionOf(0));
    }

    /** "IllegalStateException if there is no plan", ahead of all others */
    static void p23NoPlan() {
        refused(() -> withTexts(1), "versionOf(0)", STATE, x -> x.versionOf(0));
        refused(() -> withTexts(1), "versionOf(1)", STATE, x -> x.versionOf(1));
        refused(SaywhatSeen::new, "versionOf(-1)", STATE, x -> x.versionOf(-1));
        refused(SaywhatSeen::new, "versionOf(10)", STATE, x -> x.versionOf(10));
    }

    // ---- promise 24: canTell

    /** "facts: the facts, as bits": none, each, all */
    static void p24NoneEachAll() {
        due("none of none", new SaywhatSeen().canTell(0), true);
        SaywhatSeen x = withTexts(10);
        due("none of ten", x.canTell(0), true);
        for (int i = 0; i < 10; i++) {
            due("fact " + i, x.canTell(1 << i), true);
        }
        due("all ten", x.canTell(1023), true);
        x.sound('s', 0, 600);
        due("none, without a gap", x.canTell(0), true);
        due("one, without a gap", x.canTell(512), false);
    }

    /** "IllegalArgumentException if there are others among them" */
    static void p24Others() {
        refused(SaywhatSeen::new, "fact 0 of none", ARGUMENT, x -> x.canTell(1));
        refused(Worlds::busy, "fact 5 of five", ARGUMENT, x -> x.canTell(32));
        refused(Worlds::busy, "fact 5 with others", ARGUMENT, x -> x.canTell(63));
        due("five of five", Worlds.busy().canTell(31), false);
        for (int bit = 10; bit < 32; bit++) {
            int set = 1 << bit;
            refused(Worlds::full, "bit " + bit, ARGUMENT, x -> x.canTell(set));
            refused(Worlds::full, "bit " + bit + " with fact 0", ARGUMENT, x -> x.canTell(set | 1));
        }
        for (int set : new int[] {-1, LOW, HIGH, 1024, 2047}) {
            refused("facts " + set, ARGUMENT, x -> x.canTell(set));
        }
    }

    /** The number of one that was dropped is another one. */
    static void p24Dropped() {
        Worlds.Made world = () -> {
            SaywhatSeen x = withTexts(10);
            x.drop(0);
            x.drop(9);
            return x;
        };
        refused(world, "fact 0", ARGUMENT, x -> x.canTell(1));
        refused(world, "fact 9", ARGUMENT, x -> x.canTell(512));
        refused(world, "all ten", ARGUMENT, x -> x.canTell(1023));
        due("all but those", world.anew().canTell(510), true);
    }

    /** "A set of facts can be told if all have texts, no two are of one thing by unlike terms" */
    static void p24TextsAndTerms() {
        SaywhatSeen x = withTexts(2);
        x.fact(0, 600, 5, 0, true);
        due("one without a text", x.canTell(4), false);
        due("one of three without a text", x.canTell(7), false);
        due("the others", x.canTell(3), true);
        x.thing(0, 0, 0);
        x.thing(1, 0, 1);
        due("unlike terms", x.canTell(3), false);
        due("each alone", x.canTell(1) && x.canTell(2), true);
    }

    /** "and there is a way of it": one that just fits, and one for which a tick is missing */
    static void p24WayOfIt() {
        due("two in 23 ticks", weighing(23, 5, 5).canTell(3), true);
        due("two in 22 ticks", weighing(22, 5, 5).canTell(3), false);
        due("one in 10 ticks", weighing(10, 5).canTell(1), true);
        due("one in 9 ticks", weighing(9, 5).canTell(1), false);
        int[] ten = {1, 1, 1, 1, 1, 1, 1, 1, 1, 1};
        due("ten in 127 ticks", weighing(127, ten).canTell(1023), true);
        due("ten in 126 ticks", weighing(126, ten).canTell(1023), false);
    }

    /** It is told of the film, the facts and the voice of now, without a plan and with one. */
    static void p24OfNow() {
        SaywhatSeen x = weighing(23, 5, 5);
        due("with a breath of 3", x.canTell(3), true);
        x.voice(4, 4);
        due("with a breath of 4", x.canTell(3), false);
        x.voice(4, 3);
        x.plan();
        due("with a plan", x.canTell(3), true);
        x.sound('n', 22, 23);
        due("with a noise", x.canTell(3), false);
        x.unsound();
        due("without it", x.canTell(3), true);
        x.cut(0, 1);
        fails("what was seen in a cut is another one", ARGUMENT, () -> x.canTell(1));
    }
}
