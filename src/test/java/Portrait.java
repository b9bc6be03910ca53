import java.util.ArrayList;
import java.util.List;

/**
 * All that an object tells of itself, as a row of calls with their answers: first the questions, then such
 * calls as change it and tell by that what was there. Two objects in the same state have the same portrait.
 */
final class Portrait {
    private final SaywhatSeen x;
    private final List<String> rows = new ArrayList<>();

    private Portrait(SaywhatSeen x) {
        this.x = x;
    }

    /** Some 370 calls: of the 512 that an object has, some 140 are left ahead of it. */
    static List<String> of(SaywhatSeen x) {
        Portrait portrait = new Portrait(x);
        portrait.film();
        portrait.plan();
        portrait.facts();
        portrait.stage();
        portrait.marks();
        portrait.links();
        portrait.breath();
        portrait.rest();
        return portrait.rows;
    }

    /** The first row in which two portraits differ, with both answers; empty if there is none. */
    static String difference(List<String> got, List<String> want) {
        for (int i = 0; i < Math.min(got.size(), want.size()); i++) {
            if (!got.get(i).equals(want.get(i))) {
                return got.get(i) + " instead of " + want.get(i);
            }
        }
        return got.size() == want.size() ? "" : "rows are missing";
    }

    private void ask(String call, Checks.Call made) {
        rows.add(call + " " + Checks.answerOf(made));
    }

    private void film() {
        ask("checksum", () -> x.checksum());
        ask("sounds", () -> x.sounds());
        for (int i = 0; i < 4; i++) {
            int index = i;
            ask("gap " + i, () -> x.gapAt(false, index, true));
            ask("gap's end " + i, () -> x.gapAt(false, index, false));
            ask("silent gap " + i, () -> x.gapAt(true, index, true));
            ask("silent gap's end " + i, () -> x.gapAt(true, index, false));
        }
        ask("gaps", () -> x.gaps(false));
        ask("silent gaps", () -> x.gaps(true));
    }

    private void plan() {
        ask("weight", () -> x.weight());
        ask("loss", () -> x.loss());
        ask("sound", () -> x.isSound());
        for (int f = 0; f < 10; f++) {
            int fact = f;
            ask("planned " + f, () -> x.planned(fact));
            ask("start " + f, () -> x.start(fact));
            ask("version " + f, () -> x.versionOf(fact));
        }
    }

    private void facts() {
        for (int f = 0; f < 10; f++) {
            int fact = f;
            for (int v = 0; v < 3; v++) {
                int version = v;
                ask("ticks " + f + " " + v, () -> x.ticks(fact, version));
            }
            ask("first start " + f, () -> x.firstStart(fact, 0, 0));
            ask("told " + f, () -> x.told(fact));
            ask("with fact 0, " + f, () -> x.canTell(1 | 1 << fact));
            ask("review " + f, () -> x.review(fact));
        }
    }

    private void stage() {
        for (int p = 0; p < 10; p++) {
            int person = p;
            ask("called " + p, () -> x.call(person));
        }
        ask("speaking", () -> x.speak(false));
        for (int i = 0; i < 25; i++) {
            for (int f = 0; f < 3; f++) {
                int fact = f;
                ask("cue " + f + " ahead of tick " + i, () -> x.cue(fact));
            }
            ask("tick " + i, () -> x.tick(1));
        }
    }

    private void marks() {
        for (int i = 0; i < 60; i++) {
            int fact = i / 6;
            int listener = i % 6;
            ask("mark " + fact + " " + listener, () -> x.mark(fact, listener, 0));
        }
    }

    private void links() {
        for (int i = 0; i < 10; i++) {
            int number = i;
            ask("named " + i, () -> x.named(number, -1));
            ask("names " + i, () -> x.names(number, -1));
            ask("thing " + i, () -> x.thing(number, -1, 0));
        }
    }

    /** The breath shows where two texts are told one behind the other, so a quiet beginning is made. */
    private void breath() {
        ask("free number", () -> x.fact(0, 1, 1, 0, true));
        ask("cut", () -> x.cut(0, 100));
        ask("insert", () -> x.insert(0, 100));
        for (int f = 0; f < 10; f++) {
            int fact = f;
            ask("drop " + f, () -> x.drop(fact));
        }
        for (int f = 0; f < 2; f++) {
            int fact = f;
            ask("fact " + f, () -> x.fact(0, 100, 5, 0, true));
            ask("version " + f, () -> x.version(fact, 1));
        }
        ask("plan", () -> x.plan());
        ask("start 0", () -> x.start(0));
        ask("start 1", () -> x.start(1));
        ask("speed", () -> x.voice(4, 3));
    }

    private void rest() {
        for (int i = 0; i < 4; i++) {
            int edition = i;
            ask("use " + i, () -> x.use(edition));
            ask("checksum", () -> x.checksum());
            ask("plan", () -> x.plan());
            ask("weight", () -> x.weight());
        }
        ask("edition", () -> x.edition());
        ask("live", () -> x.live());
        ask("ticks of the film", () -> x.film(900));
    }
}
