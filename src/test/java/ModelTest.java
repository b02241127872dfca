import java.util.Random;

/** Long runs of drawn calls: each answer of the class is held against the model's. */
public final class ModelTest {
    private static final int RUNS = 1500;
    private static final int CALLS = 512;

    private final Checks checks;
    private final Random draws;
    private final OthersHands x = new OthersHands();
    private final Model y = new Model();
    private final String run;
    private int calls;

    private ModelTest(Checks checks, int run) {
        this.checks = checks;
        this.draws = new Random(run);
        this.run = "run " + run;
    }

    public static void main(String[] args) {
        Checks checks = new Checks();
        for (int run = 0; run < RUNS; run++) {
            ModelTest test = new ModelTest(checks, run);
            while (test.calls < CALLS) {
                test.turn();
            }
        }
        checks.end();
    }

    private void due(String call, long want, long got, int... numbers) {
        calls++;
        StringBuilder all = new StringBuilder(run).append(", call ").append(calls).append(": ").append(call);
        for (int number : numbers) {
            all.append(' ').append(number);
        }
        checks.due(all.toString(), want, got);
    }

    /** A number from 0 on below a bound, now and then one that lies outside. */
    private int below(int bound) {
        int drawn = draws.nextInt(60);
        if (drawn == 0) {
            return draws.nextInt();
        }
        if (drawn < 3) {
            return drawn == 1 ? -1 : bound;
        }
        return draws.nextInt(bound);
    }

    private int man() {
        return below(6);
    }

    private int thing() {
        return below(Math.max(1, y.told(1)));
    }

    private void say(int sign) {
        due("say", y.say(sign), x.say(sign), sign);
    }

    private void turn() {
        int drawn = draws.nextInt(100);
        if (drawn < 3) {
            writeBook();
        } else if (drawn < 5) {
            writeNonsense();
        } else if (drawn < 30) {
            change();
        } else if (drawn < 55) {
            askTouches();
        } else if (drawn < 70) {
            askFilled();
        } else if (drawn < 90) {
            askBread();
        } else {
            askOrKeep();
        }
    }

    private void writeBook() {
        due("wipe", y.wipe(), x.wipe());
        int things = 1 + draws.nextInt(10);
        for (int k = 0; k < things; k++) {
            writeMaking(k);
        }
        if (draws.nextInt(12) == 0) {
            say(33 + draws.nextInt(94));
        }
        due("fault", y.fault(), x.fault());
        due("book", y.book(), x.book());
        for (int thing = 0; thing < y.told(1) && draws.nextBoolean(); thing++) {
            int v = draws.nextInt(4);
            due("loaves", y.loaves(thing, v), x.loaves(thing, v), thing, v);
        }
    }

    private void writeMaking(int k) {
        int froms = draws.nextInt(3);
        for (int from = 0; from < k && froms > 0; from++) {
            if (draws.nextInt(k - from) < froms) {
                say('a' + from);
                froms--;
            }
        }
        if (k > 0 && draws.nextInt(4) == 0) {
            say('+');
            say('a' + draws.nextInt(k));
        }
        int hands = draws.nextInt(3);
        boolean asked = draws.nextInt(3) == 0;
        int least = draws.nextInt(6);
        for (int man = least; man < 6 && (hands >= 0 || !asked && man == least); man++) {
            if (man == least || draws.nextBoolean()) {
                say('A' + man);
                hands--;
            }
        }
        if (asked && hands >= 0) {
            say('?');
        }
        say(';');
    }

    private void writeNonsense() {
        String likely = "A;aB;bC;+?abcDEF;;A;";
        int signs = 1 + draws.nextInt(20);
        for (int i = 0; i < signs; i++) {
            say(draws.nextInt(40) == 0 ? draws.nextInt(130) : likely.charAt(draws.nextInt(likely.length())));
            if (draws.nextInt(3) == 0) {
                due("fault", y.fault(), x.fault());
            }
        }
        due("book", y.book(), x.book());
    }

    private void change() {
        int a = man();
        int b = man();
        int thing = thing();
        int v = below(10);
        int which = below(3);
        switch (draws.nextInt(8)) {
            case 0: due("join", y.join(a, b), x.join(a, b), a, b); break;
            case 1: due("part", y.part(a), x.part(a), a); break;
            case 2: due("set", y.set(which, v), x.set(which, v), which, v); break;
            case 3: due("set", y.set(0, v / 3), x.set(0, v / 3), 0, v / 3); break;
            case 4: due("seen", y.seen(a, thing), x.seen(a, thing), a, thing); break;
            case 5:
                if (draws.nextInt(3) == 0) {
                    due("forget", y.forget(), x.forget());
                }
                break;
            default: due("loaves", y.loaves(thing, v), x.loaves(thing, v), thing, v);
        }
    }

    private void askTouches() {
        int man = man();
        int thing = thing();
        int what = below(2);
        switch (draws.nextInt(6)) {
            case 0: due("thing", y.thing(thing, what), x.thing(thing, what), thing, what); break;
            case 1: due("may", y.may(man, what), x.may(man, what), man, what); break;
            case 2: due("near", y.near(thing, man), x.near(thing, man), thing, man); break;
            case 3: due("share", y.share(thing, man, what), x.share(thing, man, what), thing, man, what); break;
            case 4: due("washed", y.washed(thing, man), x.washed(thing, man), thing, man); break;
            default:
                int kind = below(3);
                due("touched", y.touched(thing, kind), x.touched(thing, kind), thing, kind);
        }
    }

    private void askFilled() {
        int i = below(6) - 1;
        int thing = thing();
        int what = below(2);
        if (draws.nextBoolean()) {
            due("filled", y.filled(i), x.filled(i), i);
        } else {
            due("sure", y.sure(thing, what), x.sure(thing, what), thing, what);
        }
    }

    private void askBread() {
        int i = below(7) - 1;
        int thing = draws.nextBoolean() ? -1 : thing();
        int c = 1 + below(6);
        int what = below(2);
        int seed = below(10000);
        int n = 1 + below(99);
        switch (draws.nextInt(6)) {
            case 0: due("fed", y.fed(i), x.fed(i), i); break;
            case 1: due("lack", y.lack(), x.lack()); break;
            case 2: due("makers", y.makers(c, what), x.makers(c, what), c, what); break;
            case 3: due("days", y.days(seed, n, thing), x.days(seed, n, thing), seed, n, thing); break;
            default: due("married", y.married(i), x.married(i), i);
        }
    }

    private void askOrKeep() {
        int n = below(2);
        int what = below(32);
        switch (draws.nextInt(6)) {
            case 0: due("image", y.image(n), x.image(n), n); break;
            case 1: due("restore", y.restore(n), x.restore(n), n); break;
            default: due("told", y.told(what), x.told(what), what);
        }
    }
}
