/** Long runs of calls, the same ones in each run of the test, held against the slow model. */
public final class RandomRunsTest {
    private static final int RUNS = 600;
    private static final int CALLS = 512;
    private static final int MOST_AT_ONCE = 32;
    private static final int[] ODD = {
        Integer.MIN_VALUE, Integer.MIN_VALUE + 1, -2, 900, 901, Integer.MAX_VALUE - 1, Integer.MAX_VALUE
    };

    private long seed;
    private SaywhatSeen seen;
    private SlowModel model;
    private int reach;
    private int made;
    private final StringBuilder calls = new StringBuilder();

    public static void main(String[] args) {
        for (int run = 0; run < RUNS && Checks.wrong() == 0; run++) {
            new RandomRunsTest().go(run);
        }
        Checks.end();
    }

    private void go(int run) {
        seed = 77777L * run + 5;
        seen = new SaywhatSeen();
        model = new SlowModel();
        reach = run % 4 == 0 ? 60 : run % 4 == 1 ? 150 : run % 4 == 2 ? 300 : 600;
        film(reach);
        int busy = run % 3;
        for (int i = 0; made + MOST_AT_ONCE <= CALLS && Checks.wrong() == 0; i++) {
            one(i < 60 ? 5 + pick(25) : busy == 0 ? pick(60) : busy == 1 ? pick(110) : 5 + pick(105));
        }
        if (Checks.wrong() != 0) {
            System.out.println("run " + run + ":\n" + calls);
        }
    }

    private int pick(int below) {
        seed = seed * 6364136223846793005L + 1442695040888963407L;
        return (int) ((seed >>> 33) % below);
    }

    /** Mostly within the range, now and then at its edges or far beyond. */
    private int near(int from, int to) {
        int way = pick(40);
        if (way == 0) {
            return ODD[pick(ODD.length)];
        }
        if (way == 1) {
            return from - 1;
        }
        if (way == 2) {
            return to + 1;
        }
        return way == 3 ? from : way == 4 ? to : from + pick(to - from + 1);
    }

    private int fact() {
        return near(0, pick(3) == 0 ? 9 : 5);
    }

    private boolean coin() {
        return pick(2) == 0;
    }

    private void same(String call, Checks.Call ours, Checks.Call theirs) {
        calls.append(call).append("; ");
        made++;
        Checks.due(call, Checks.answerOf(ours), Checks.answerOf(theirs));
    }

    private void film(int ticks) {
        same("film(" + ticks + ")", () -> seen.film(ticks), () -> model.film(ticks));
    }

    private void one(int what) {
        if (what < 5) {
            change(what);
        } else if (what < 14) {
            oneOfFilm(what);
        } else if (what < 34) {
            oneOfFacts(what);
        } else if (what < 60) {
            oneOfPlan(what);
        } else if (what < 90) {
            oneOfStage(what);
        } else {
            oneOfMarks(what);
        }
    }

    private void change(int what) {
        int a = near(0, reach);
        int b = near(1, coin() ? 12 : reach / 3);
        int e = near(0, 3);
        switch (what) {
            case 0 -> same("cut(" + a + ", " + b + ")", () -> seen.cut(a, b), () -> model.cut(a, b));
            case 1 -> same("insert(" + a + ", " + b + ")", () -> seen.insert(a, b), () -> model.insert(a, b));
            case 2 -> same("edition()", () -> seen.edition(), () -> model.edition());
            case 3 -> same("use(" + e + ")", () -> seen.use(e), () -> model.use(e));
            default -> film(near(1, reach));
        }
    }

    private void oneOfFilm(int what) {
        int a = near(0, reach - 1);
        int b = coin() ? a + near(1, 20) : near(1, reach);
        int p = near(0, 9);
        boolean is = coin();
        boolean isStart = coin();
        int index = near(0, 6);
        switch (what) {
            case 5, 6 -> {
                char kind = "sgnsgnx".charAt(pick(7));
                same("sound('" + kind + "', " + a + ", " + b + ")", () -> seen.sound(kind, a, b),
                        () -> model.sound(kind, a, b));
            }
            case 7 -> same("sounds()", () -> seen.sounds(), () -> model.sounds());
            case 8 -> same("gaps(" + is + ")", () -> seen.gaps(is), () -> model.gaps(is));
            case 9 -> same("gapAt(" + is + ", " + index + ", " + isStart + ")",
                    () -> seen.gapAt(is, index, isStart), () -> model.gapAt(is, index, isStart));
            case 10 -> {
                int tick = near(-1, reach / 2);
                same("named(" + p + ", " + tick + ")", () -> seen.named(p, tick), () -> model.named(p, tick));
            }
            case 11 -> {
                int speed = near(2, 9);
                int breath = near(0, coin() ? 5 : 20);
                same("voice(" + speed + ", " + breath + ")", () -> seen.voice(speed, breath),
                        () -> model.voice(speed, breath));
            }
            default -> {
                if (pick(3) == 0) {
                    same("unsound()", () -> seen.unsound(), () -> model.unsound());
                }
            }
        }
    }

    private void oneOfFacts(int what) {
        int f = fact();
        int v = near(0, 2);
        if (what < 18) {
            int from = near(0, reach - 1);
            int by = coin() ? near(1, reach) : from + near(1, 80);
            int weight = coin() ? near(1, 4) : near(1, 99);
            int ahead = near(0, 60);
            boolean isOver = coin();
            same("fact(" + from + ", " + by + ", " + weight + ", " + ahead + ", " + isOver + ")",
                    () -> seen.fact(from, by, weight, ahead, isOver),
                    () -> model.fact(from, by, weight, ahead, isOver));
        } else if (what < 26) {
            int syllables = near(1, coin() ? 10 : 80);
            same("version(" + f + ", " + syllables + ")", () -> seen.version(f, syllables),
                    () -> model.version(f, syllables));
        } else if (what == 26 && pick(3) == 0) {
            same("drop(" + f + ")", () -> seen.drop(f), () -> model.drop(f));
        } else if (what == 27) {
            int person = near(-1, 9);
            same("names(" + f + ", " + person + ")", () -> seen.names(f, person), () -> model.names(f, person));
        } else if (what == 28) {
            int thing = coin() ? near(-1, 2) : near(-1, 9);
            int term = near(0, coin() ? 2 : 9);
            same("thing(" + f + ", " + thing + ", " + term + ")", () -> seen.thing(f, thing, term),
                    () -> model.thing(f, thing, term));
        } else if (what == 29) {
            same("ticks(" + f + ", " + v + ")", () -> seen.ticks(f, v), () -> model.ticks(f, v));
        } else if (what < 32) {
            int tick = near(0, reach);
            same("canStart(" + f + ", " + v + ", " + tick + ")", () -> seen.canStart(f, v, tick),
                    () -> model.canStart(f, v, tick));
        } else {
            int tick = coin() ? near(-3, 3) : near(0, reach);
            same("firstStart(" + f + ", " + v + ", " + tick + ")", () -> seen.firstStart(f, v, tick),
                    () -> model.firstStart(f, v, tick));
        }
    }

    private void oneOfPlan(int what) {
        int f = fact();
        int index = near(0, 5);
        switch (what - 34) {
            case 0 -> same("plan()", () -> seen.plan(), () -> model.plan());
            case 1 -> wholePlan();
            case 2 -> same("weight()", () -> seen.weight(), () -> model.weight());
            case 3 -> same("loss()", () -> seen.loss(), () -> model.loss());
            case 4 -> same("planned(" + index + ")", () -> seen.planned(index), () -> model.planned(index));
            case 5 -> same("start(" + f + ")", () -> seen.start(f), () -> model.start(f));
            case 6 -> same("versionOf(" + f + ")", () -> seen.versionOf(f), () -> model.versionOf(f));
            case 7 -> {
                int set = pick(20) == 0 ? near(0, 1 << 10) : pick(1 << 5);
                same("canTell(" + set + ")", () -> seen.canTell(set), () -> model.canTell(set));
            }
            case 8 -> same("isSound()", () -> seen.isSound(), () -> model.isSound());
            case 9 -> same("checksum()", () -> seen.checksum(), () -> model.checksum());
            case 10, 11, 12 -> change(pick(5));
            default -> oneOfFacts(14 + pick(20));
        }
    }

    private void wholePlan() {
        same("plan()", () -> seen.plan(), () -> model.plan());
        same("isSound()", () -> seen.isSound(), () -> model.isSound());
        for (int i = 0; i < 10; i++) {
            int f = i;
            same("planned(" + f + ")", () -> seen.planned(f), () -> model.planned(f));
            same("start(" + f + ")", () -> seen.start(f), () -> model.start(f));
            same("versionOf(" + f + ")", () -> seen.versionOf(f), () -> model.versionOf(f));
        }
    }

    private void oneOfStage(int what) {
        int f = fact();
        int p = near(0, 9);
        boolean is = pick(3) == 0;
        int many = pick(4) == 0 ? near(1, 200) : near(1, 12);
        if (what < 70) {
            same("cue(" + f + ")", () -> seen.cue(f), () -> model.cue(f));
        } else if (what < 77) {
            same("tick(" + many + ")", () -> seen.tick(many), () -> model.tick(many));
        } else if (what < 80) {
            same("speak(" + is + ")", () -> seen.speak(is), () -> model.speak(is));
        } else if (what < 82) {
            same("call(" + p + ")", () -> seen.call(p), () -> model.call(p));
        } else if (what < 89) {
            same("told(" + f + ")", () -> seen.told(f), () -> model.told(f));
        } else {
            same("live()", () -> seen.live(), () -> model.live());
        }
    }

    private void oneOfMarks(int what) {
        int f = fact();
        int listener = near(0, 5);
        int mark = near(0, 10);
        if (what < 102) {
            same("mark(" + f + ", " + listener + ", " + mark + ")", () -> seen.mark(f, listener, mark),
                    () -> model.mark(f, listener, mark));
        } else if (what < 107) {
            same("review(" + f + ")", () -> seen.review(f), () -> model.review(f));
        } else {
            same("checksum()", () -> seen.checksum(), () -> model.checksum());
        }
    }
}
