import java.util.HashMap;
import java.util.List;
import java.util.Map;
import java.util.NoSuchElementException;

/** What the tests of the edges share. */
abstract class Edges {
    static final Class<IllegalArgumentException> ARGUMENT = IllegalArgumentException.class;
    static final Class<IllegalStateException> STATE = IllegalStateException.class;
    static final Class<IndexOutOfBoundsException> INDEX = IndexOutOfBoundsException.class;
    static final Class<UnsupportedOperationException> UNSUPPORTED = UnsupportedOperationException.class;
    static final Class<NoSuchElementException> ELEMENT = NoSuchElementException.class;
    static final int LOW = Integer.MIN_VALUE;
    static final int HIGH = Integer.MAX_VALUE;
    /** Numbers that no fact ever has. */
    static final int[] NO_FACTS = {-1, 10, LOW, HIGH};
    private static final Map<Worlds.Made, List<String>> PORTRAITS = new HashMap<>();

    interface Asked {
        Object of(SaywhatSeen x);
    }

    static void due(String call, Object got, Object want) {
        Checks.due(call, got, want);
    }

    static void fails(String call, Class<? extends RuntimeException> kind, Checks.Call made) {
        Checks.fails(call, kind, made);
    }

    /** The call is refused in each of the worlds, and behind it each is as if it had not been made. */
    static void refused(String call, Class<? extends RuntimeException> kind, Asked asked) {
        for (Worlds.Made world : Worlds.ALL) {
            refused(world, call, kind, asked);
        }
    }

    /** The call is refused in each of the worlds that have facts, a plan and a stage; nothing is changed. */
    static void refusedLiving(String call, Class<? extends RuntimeException> kind, Asked asked) {
        for (Worlds.Made world : Worlds.LIVING) {
            refused(world, call, kind, asked);
        }
    }

    /** The call is refused in this world, and behind it the world is as if it had not been made. */
    static void refused(Worlds.Made world, String call, Class<? extends RuntimeException> kind, Asked asked) {
        SaywhatSeen x = world.anew();
        fails(call, kind, () -> asked.of(x));
        List<String> want = PORTRAITS.computeIfAbsent(world, made -> Portrait.of(made.anew()));
        due("behind " + call, Portrait.difference(Portrait.of(x), want), "");
    }

    /** A film of so many ticks. */
    static SaywhatSeen ofTicks(int ticks) {
        SaywhatSeen x = new SaywhatSeen();
        x.film(ticks);
        return x;
    }

    /** A film of 600 ticks with so many facts over all of it, of weight 5, each with a text of 10 ticks. */
    static SaywhatSeen withTexts(int many) {
        SaywhatSeen x = new SaywhatSeen();
        for (int i = 0; i < many; i++) {
            x.fact(0, 600, 5, 0, true);
            x.version(i, 4);
        }
        return x;
    }

    static SaywhatSeen withSounds(int many) {
        SaywhatSeen x = new SaywhatSeen();
        for (int i = 0; i < many; i++) {
            x.sound('s', 2 * i, 2 * i + 1);
        }
        return x;
    }

    /** The checksum over these numbers, each behind 31 times what was there, from 7 on. */
    static long sums(long... numbers) {
        long sum = 7;
        for (long number : numbers) {
            sum = 31 * sum + number;
        }
        return sum;
    }
}
