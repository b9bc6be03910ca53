/** Objects in different states; each call makes one anew, the same each time, by some 100 calls at most. */
final class Worlds {
    private Worlds() {
    }

    interface Made {
        SaywhatSeen anew();
    }

    /** In all of these a call is refused that is wrong by itself. */
    static final Made[] ALL = {SaywhatSeen::new, Worlds::busy, Worlds::speaking, Worlds::full};

    /** In all of these there is a fact 0, a plan, and a stage. */
    static final Made[] LIVING = {Worlds::busy, Worlds::speaking, Worlds::full};

    /** Some of all: facts 0 to 4, editions 0 and 1, a plan, marks, a stage with fact 2 under way. */
    static SaywhatSeen busy() {
        SaywhatSeen x = new SaywhatSeen();
        x.film(300);
        x.sound('s', 20, 40);
        x.sound('g', 60, 90);
        x.sound('n', 100, 110);
        x.fact(0, 100, 50, 0, true);
        x.version(0, 4);
        x.version(0, 6);
        x.fact(50, 200, 30, 10, false);
        x.version(1, 8);
        x.edition();
        x.fact(10, 300, 20, 5, true);
        x.version(2, 5);
        x.version(2, 6);
        x.version(2, 7);
        x.fact(0, 300, 99, 0, true);
        x.fact(0, 300, 7, 0, true);
        x.version(4, 4);
        x.named(0, 0);
        x.named(3, 70);
        x.named(9, 299);
        x.names(1, 3);
        x.thing(0, 2, 5);
        x.thing(2, 2, 5);
        x.thing(4, 2, 6);
        x.edition();
        x.voice(5, 4);
        for (int i = 0; i < 9; i++) {
            x.mark(i % 4, i % 5, i);
        }
        x.plan();
        x.live();
        x.call(3);
        x.cue(0);
        x.tick(12);
        x.cue(2);
        x.tick(4);
        return x;
    }

    /** As busy, but for somebody who spoke into the text of fact 2 a tick ago, and still does. */
    static SaywhatSeen speaking() {
        SaywhatSeen x = busy();
        x.speak(true);
        x.tick(1);
        return x;
    }

    /** 900 ticks, 30 sounds, 10 facts with texts, 4 editions, a plan, a stage with fact 9 under way. */
    static SaywhatSeen full() {
        SaywhatSeen x = new SaywhatSeen();
        x.film(900);
        for (int i = 0; i < 30; i++) {
            x.sound("sgn".charAt(i % 3), 20 * i, 20 * i + 5 + i % 4);
        }
        for (int i = 0; i < 10; i++) {
            x.fact(60 * i, 60 * i + 200, 10 + i, 6 * i, i % 2 == 0);
            x.version(i, 1 + i);
            x.version(i, 20 + i);
            x.version(i, 80);
        }
        for (int i = 0; i < 4; i++) {
            x.names(2 * i, i);
            x.named(i, 100 * i);
            x.thing(i + 4, i / 2, i % 3);
            x.edition();
        }
        for (int i = 0; i < 10; i++) {
            x.mark(i, i % 6, i);
        }
        x.plan();
        x.live();
        x.call(0);
        x.cue(9);
        x.tick(1);
        return x;
    }
}
