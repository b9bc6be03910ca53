/** A portrait is worth something only if each change shows in it, and nothing else does. */
public final class PortraitTest extends Edges {
    public static void main(String[] args) throws IllegalAccessException {
        Checks.runAll(PortraitTest.class);
    }

    private static void shows(Worlds.Made world, String call, Asked asked) {
        SaywhatSeen x = world.anew();
        asked.of(x);
        boolean isLike = Portrait.difference(Portrait.of(x), Portrait.of(world.anew())).isEmpty();
        due(call + " shows", !isLike, true);
    }

    /** The same calls lead to the same portrait, and no world is like another one. */
    static void worlds() {
        for (Worlds.Made one : Worlds.ALL) {
            for (Worlds.Made other : Worlds.ALL) {
                boolean isLike = Portrait.difference(Portrait.of(one.anew()), Portrait.of(other.anew())).isEmpty();
                due("like", isLike, one == other);
            }
        }
    }

    static void ofTheFilm() {
        for (Worlds.Made world : Worlds.ALL) {
            shows(world, "film", x -> x.film(x.film(900) - 1 > 300 ? 899 : 301));
            shows(world, "unsound or sound", x -> x.sounds() > 0 ? x.unsound() : x.sound('g', 1, 2));
            shows(world, "named 0", x -> x.named(0, 1));
            shows(world, "named 9", x -> x.named(9, 1));
            shows(world, "cut", x -> x.cut(15, 1));
        }
        shows(Worlds::busy, "insert", x -> x.insert(250, 1));
        shows(Worlds::busy, "the kind of a sound", x -> x.unsound() + x.sound('g', 100, 110) + x.plan());
    }

    static void ofTheVoice() {
        for (Worlds.Made world : Worlds.ALL) {
            shows(world, "speed", x -> x.voice(6, world == Worlds.ALL[1] || world == Worlds.ALL[2] ? 4 : 3));
        }
        shows(SaywhatSeen::new, "breath", x -> x.voice(4, 4));
        shows(Worlds::full, "breath", x -> x.voice(4, 4) + x.plan());
        shows(Worlds::busy, "breath", x -> x.voice(5, 3) + x.plan());
    }

    static void ofFacts() {
        shows(SaywhatSeen::new, "fact", x -> x.fact(0, 1, 1, 0, true));
        for (Worlds.Made world : Worlds.LIVING) {
            shows(world, "drop", x -> x.drop(4));
            shows(world, "names", x -> x.names(1, 7) + x.plan());
            shows(world, "thing", x -> x.thing(2, 7, 5) + x.plan());
        }
        shows(Worlds::busy, "term", x -> x.thing(4, 2, 5) + x.plan());
        shows(Worlds::busy, "version", x -> x.version(1, 80) + x.plan());
    }

    static void ofThePlan() {
        shows(() -> withTexts(1), "a plan", x -> x.plan());
        shows(Worlds::busy, "no plan", x -> x.voice(5, 4));
        shows(Worlds::full, "no plan", x -> x.voice(4, 3));
    }

    static void ofEditions() {
        shows(SaywhatSeen::new, "edition", x -> x.edition());
        shows(Worlds::busy, "edition", x -> x.edition());
        shows(Worlds::full, "use", x -> x.use(0) + x.plan());
    }

    static void ofTheStage() {
        shows(SaywhatSeen::new, "live", x -> x.live());
        for (Worlds.Made world : Worlds.LIVING) {
            shows(world, "live again", x -> x.live());
            shows(world, "speak", x -> x.speak(!x.speak(false)));
            shows(world, "call 9", x -> x.call(9));
            shows(world, "call 1", x -> x.call(1));
            shows(world, "a tick", x -> x.tick(1));
        }
        Worlds.Made quiet = () -> {
            SaywhatSeen x = withTexts(2);
            x.live();
            return x;
        };
        shows(quiet, "cue", x -> x.cue(1));
        Worlds.Made lost = () -> {
            SaywhatSeen x = quiet.anew();
            x.cue(0);
            x.speak(true);
            return x;
        };
        shows(lost, "a tick of the breath", x -> x.tick(1));
        shows(lost, "nobody", x -> x.speak(false));
    }

    static void ofMarks() {
        for (Worlds.Made world : Worlds.LIVING) {
            for (int i = 0; i < 30; i++) {
                int fact = i / 6;
                int listener = i % 6;
                if (fact < 5) {
                    shows(world, "mark", x -> x.mark(fact, listener, x.mark(fact, listener, 0) == 7 ? 8 : 7));
                }
            }
        }
    }
}
