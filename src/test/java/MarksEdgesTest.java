import java.util.Arrays;

/** The edges that the promises 35 to 38 name, a test for each; the comments are the document's words. */
public final class MarksEdgesTest extends Edges {
    public static void main(String[] args) throws IllegalAccessException {
        Checks.runAll(MarksEdgesTest.class);
    }

    /** A fact with these marks, by the listeners from 0 on; -1 is none. */
    private static SaywhatSeen marked(int... marks) {
        SaywhatSeen x = withTexts(1);
        for (int i = 0; i < marks.length; i++) {
            if (marks[i] >= 0) {
                x.mark(0, i, marks[i]);
            }
        }
        return x;
    }

    // ---- promise 35: mark

    /** "listener: 0 to 5", "Returns the mark before, -1 for none." */
    static void p35FirstAndLastListener() {
        SaywhatSeen x = withTexts(10);
        for (int i = 0; i < 60; i++) {
            due("fact " + i / 6 + " listener " + i % 6, x.mark(i / 6, i % 6, i % 11), -1);
        }
        for (int i = 0; i < 60; i++) {
            due("before, fact " + i / 6 + " listener " + i % 6, x.mark(i / 6, i % 6, 0), i % 11);
        }
    }

    /** "mark: 0 to 10", "the last one counting" */
    static void p35LeastAndGreatestMark() {
        SaywhatSeen x = withTexts(1);
        due("mark 0", x.mark(0, 0, 0), -1);
        due("mark 10", x.mark(0, 0, 10), 0);
        due("mark 10 again", x.mark(0, 0, 10), 10);
        due("mark 0 again", x.mark(0, 0, 0), 10);
    }

    /** "IllegalArgumentException if a number is out of range", the listener */
    static void p35NoSuchListener() {
        for (int listener : new int[] {-1, 6, LOW, HIGH}) {
            refusedLiving("listener " + listener, ARGUMENT, x -> x.mark(0, listener, 5));
            refused(Worlds::busy, "listener " + listener + " of the last", ARGUMENT, x -> x.mark(4, listener, 5));
            refused(Worlds::full, "listener " + listener + " of fact 9", ARGUMENT, x -> x.mark(9, listener, 5));
        }
    }

    /** "IllegalArgumentException if a number is out of range", the mark */
    static void p35NoSuchMark() {
        for (int mark : new int[] {-1, 11, LOW, HIGH}) {
            refusedLiving("mark " + mark, ARGUMENT, x -> x.mark(0, 0, mark));
            refusedLiving("mark " + mark + " of listener 5", ARGUMENT, x -> x.mark(0, 5, mark));
            refusedLiving("mark " + mark + " of listener 6", ARGUMENT, x -> x.mark(0, 6, mark));
        }
    }

    /** "IndexOutOfBoundsException if there is no such fact", and ahead of the range */
    static void p35NoSuchFact() {
        for (int fact : NO_FACTS) {
            refused("fact " + fact, INDEX, x -> x.mark(fact, 0, 0));
            refused("fact " + fact + ", listener 6", INDEX, x -> x.mark(fact, 6, 0));
            refused("fact " + fact + ", mark 11", INDEX, x -> x.mark(fact, 0, 11));
        }
        refused(SaywhatSeen::new, "fact 0 of none", INDEX, x -> x.mark(0, 0, 0));
        refused(Worlds::busy, "fact 5 of five", INDEX, x -> x.mark(5, -1, -1));
    }

    /** Marks need neither a text nor a stage, and stay as a stage begins, or the voice changes. */
    static void p35MarksStay() {
        SaywhatSeen x = new SaywhatSeen();
        x.fact(0, 600, 1, 0, true);
        due("without a text", x.mark(0, 5, 9), -1);
        x.version(0, 4);
        x.live();
        x.cue(0);
        x.tick(10);
        x.voice(9, 9);
        x.plan();
        x.edition();
        x.use(0);
        x.insert(0, 1);
        x.cut(0, 1);
        due("behind all that", x.mark(0, 5, 9), 9);
    }

    // ---- promise 36: review

    /** "NoSuchElementException if it has fewer than 3 marks" */
    static void p36FewerThan3() {
        refused(() -> marked(), "of none", ELEMENT, x -> x.review(0));
        refused(() -> marked(5), "of one", ELEMENT, x -> x.review(0));
        refused(() -> marked(0, 10), "of two", ELEMENT, x -> x.review(0));
        refused(() -> marked(-1, -1, -1, -1, 0, 0), "of the last two", ELEMENT, x -> x.review(0));
        due("of three", marked(0, 10, 4).review(0), 400);
        due("of the last three", marked(-1, -1, -1, 0, 0, 0).review(0), 0);
    }

    /** "each one, the last one counting": marks of one listener are one mark. */
    static void p36OneOfEachListener() {
        SaywhatSeen x = marked(5, 6);
        x.mark(0, 1, 7);
        x.mark(0, 1, 8);
        fails("two listeners, four marks", ELEMENT, () -> x.review(0));
        x.mark(0, 2, 10);
        due("a third listener", x.review(0), 800);
        x.mark(0, 1, 3);
        due("another mark of the second", x.review(0), 500);
    }

    /** "100 times the mean of all but a greatest and a least one": of like ones, one each */
    static void p36GreatestAndLeast() {
        due("three of the least", marked(0, 0, 0).review(0), 0);
        due("three of the greatest", marked(10, 10, 10).review(0), 1000);
        due("six of the least", marked(0, 0, 0, 0, 0, 0).review(0), 0);
        due("six of the greatest", marked(10, 10, 10, 10, 10, 10).review(0), 1000);
        due("two of the greatest", marked(10, 10, 0).review(0), 1000);
        due("two of the least", marked(10, 0, 0).review(0), 0);
        due("the least first", marked(1, 5, 9).review(0), 500);
        due("the greatest first", marked(9, 5, 1).review(0), 500);
        due("the middle one first", marked(5, 1, 9).review(0), 500);
    }

    /** "the mean": of one, of two, of three, and of four */
    static void p36MeanOfThreeToSix() {
        due("of three", marked(10, 0, 7).review(0), 700);
        due("of four", marked(10, 0, 7, 4).review(0), 550);
        due("of five", marked(10, 0, 7, 4, 1).review(0), 400);
        due("of six", marked(10, 0, 7, 4, 1, 9).review(0), 525);
    }

    /** ", cut" */
    static void p36Cut() {
        due("a third", marked(0, 10, 0, 0, 1).review(0), 33);
        due("two thirds", marked(0, 10, 0, 1, 1).review(0), 66);
        due("29 thirds", marked(0, 10, 10, 10, 9).review(0), 966);
        due("a quarter", marked(0, 10, 0, 0, 0, 1).review(0), 25);
        due("a half", marked(0, 10, 0, 1).review(0), 50);
    }

    /** Marks of the fact ahead by its last listener, and of the one behind by its first one, do not count. */
    static void p36MarksOfNeighbours() {
        Worlds.Made world = () -> {
            SaywhatSeen x = withTexts(3);
            x.mark(0, 5, 9);
            x.mark(2, 0, 9);
            x.mark(1, 0, 1);
            x.mark(1, 5, 1);
            return x;
        };
        refused(world, "of two", ELEMENT, x -> x.review(1));
        SaywhatSeen x = world.anew();
        x.mark(1, 3, 1);
        due("of three", x.review(1), 100);
    }

    /** Each fact has its own marks, the first one and the last one. */
    static void p36OfEachFact() {
        SaywhatSeen x = withTexts(10);
        for (int i = 0; i < 30; i++) {
            x.mark(i / 3, 2 * (i % 3), i / 3);
        }
        for (int i = 0; i < 10; i++) {
            due("review(" + i + ")", x.review(i), 100 * i);
        }
    }

    /** "IndexOutOfBoundsException if there is no such fact", and ahead of the marks */
    static void p36NoSuchFact() {
        for (int fact : NO_FACTS) {
            refused("review(" + fact + ")", INDEX, x -> x.review(fact));
        }
        refused(SaywhatSeen::new, "review(0) of none", INDEX, x -> x.review(0));
        Worlds.Made dropped = () -> {
            SaywhatSeen x = marked(1, 2, 3);
            x.drop(0);
            return x;
        };
        refused(dropped, "review(0), dropped", INDEX, x -> x.review(0));
        SaywhatSeen x = dropped.anew();
        x.fact(0, 1, 1, 0, true);
        fails("review(0), anew", ELEMENT, () -> x.review(0));
    }

    // ---- promise 37: checksum

    /** "Returns 7 at first, ... then 31 times itself plus the ticks of the film." */
    static void p37EmptyFilm() {
        due("of 600 ticks", new SaywhatSeen().checksum(), 7L * 31 + 600);
        due("of 1 tick", ofTicks(1).checksum(), 7L * 31 + 1);
        due("of 900 ticks", ofTicks(900).checksum(), 7L * 31 + 900);
    }

    /** "then for each sound ... its first tick, then ... that behind its last one" */
    static void p37SoundsInTheirOrder() {
        SaywhatSeen x = new SaywhatSeen();
        x.sound('g', 599, 600);
        x.sound('s', 0, 1);
        due("as they were told", x.checksum(), sums(599, 600, 0, 1, 600));
        x.unsound();
        due("without the last one", x.checksum(), sums(599, 600, 600));
    }

    /** "then for each fact ... its number, then ... the tick by which it is to be told" */
    static void p37FactsInTheirOrder() {
        SaywhatSeen x = withTexts(3);
        x.drop(0);
        due("without the first one", x.checksum(), sums(1, 600, 2, 600, 600));
        x.fact(5, 6, 1, 0, true);
        due("the number taken again", x.checksum(), sums(0, 6, 1, 600, 2, 600, 600));
        x.sound('n', 3, 4);
        due("sounds ahead of facts", x.checksum(), sums(3, 4, 0, 6, 1, 600, 2, 600, 600));
    }

    /** A long wraps around: with 11 numbers behind the 7 it does not yet, with 13 it does. */
    static void p37WrapsAround() {
        int[] many = {5, 6, 30};
        for (int sounds : many) {
            SaywhatSeen x = ofTicks(900);
            long[] numbers = new long[2 * sounds + 21];
            for (int i = 0; i < sounds; i++) {
                x.sound('n', 800 - i, 900 - i);
                numbers[2 * i] = 800 - i;
                numbers[2 * i + 1] = 900 - i;
            }
            due(sounds + " sounds", x.checksum(), sums(with900(numbers, 2 * sounds)));
            for (int i = 0; i < 10; i++) {
                x.fact(0, 900 - i, 1, 0, true);
                numbers[2 * sounds + 2 * i] = i;
                numbers[2 * sounds + 2 * i + 1] = 900 - i;
            }
            due(sounds + " sounds and ten facts", x.checksum(), sums(with900(numbers, 2 * sounds + 20)));
        }
        due("it is below 0 somewhere", isBelowSomewhere(), true);
    }

    private static long[] with900(long[] numbers, int length) {
        long[] all = Arrays.copyOf(numbers, length + 1);
        all[length] = 900;
        return all;
    }

    private static boolean isBelowSomewhere() {
        SaywhatSeen x = ofTicks(900);
        boolean isBelow = false;
        for (int i = 0; i < 30; i++) {
            x.sound('n', i, 900);
            isBelow |= x.checksum() < 0;
        }
        return isBelow;
    }

    /** Nothing else is in it: not names, texts, things, weights, kinds, the voice, a plan, a stage, marks. */
    static void p37NothingElse() {
        SaywhatSeen x = withTexts(1);
        x.sound('s', 1, 2);
        long sum = sums(1, 2, 0, 600, 600);
        due("at first", x.checksum(), sum);
        x.version(0, 80);
        x.named(0, 7);
        x.names(0, 0);
        x.thing(0, 1, 1);
        x.voice(9, 9);
        x.plan();
        x.live();
        x.call(0);
        x.cue(0);
        x.tick(1);
        x.speak(true);
        x.mark(0, 0, 1);
        x.edition();
        due("behind all that", x.checksum(), sum);
    }

    // ---- promise 38: isSound

    /** Without a plan, and with an empty one. */
    static void p38WithoutAPlan() {
        for (Worlds.Made world : Worlds.ALL) {
            SaywhatSeen x = world.anew();
            due("as it is", x.isSound(), true);
            x.voice(4, 3);
            due("without a plan", x.isSound(), true);
            x.plan();
            due("with a plan", x.isSound(), true);
        }
        SaywhatSeen none = withTexts(10);
        none.sound('s', 0, 600);
        none.plan();
        due("with an empty plan", none.isSound(), true);
    }

    /** "no set with a greater weight can be told, looked at by all orders of at most 5 facts": 0 to 10 in all */
    static void p38ZeroToTenFacts() {
        for (int many = 0; many <= 10; many++) {
            SaywhatSeen x = withTexts(many);
            x.plan();
            due(many + " facts", x.isSound(), true);
            x.sound('s', 30, 600);
            x.plan();
            due(many + " facts in 30 ticks", x.isSound(), true);
        }
    }

    /** "with a breath between any two": none, and the longest */
    static void p38ShortestAndLongestBreath() {
        for (int breath : new int[] {0, 20}) {
            SaywhatSeen x = withTexts(10);
            x.voice(9, breath);
            x.plan();
            due("a breath of " + breath, x.isSound(), true);
        }
    }

    /** "and gaps are without what they should be without": no gap, many, music alone */
    static void p38Gaps() {
        SaywhatSeen none = new SaywhatSeen();
        none.sound('s', 0, 600);
        due("no gap", none.isSound(), true);
        due("30 sounds", withSounds(30).isSound(), true);
        SaywhatSeen music = new SaywhatSeen();
        music.sound('g', 0, 600);
        due("music alone", music.isSound(), true);
        due("a film of a tick", ofTicks(1).isSound(), true);
    }

    /** It is a question: all is as it was. */
    static void p38ChangesNothing() {
        for (Worlds.Made world : Worlds.ALL) {
            SaywhatSeen x = world.anew();
            x.isSound();
            due("behind isSound()", Portrait.difference(Portrait.of(x), Portrait.of(world.anew())), "");
        }
    }
}
