import java.util.List;

/**
 * Refused calls: of each call, in each scene, by each of many numbers in each place (the bounds, one below, one
 * above, far away, such as wrap around to a good one), whether it is refused and by which refusal, the first
 * that fits; and that nothing has changed behind it.
 */
public final class RefusalsTest {
    private static final int NONE = -6, UNKNOWN = -1, OUTSIDE = -2, STATE = -3, FULL = -4, NO = -5;
    private static final int TAKEN = 0;
    private static final long LOST = -1000000000000000000L;
    private static final int LEAST = Integer.MIN_VALUE, MOST = Integer.MAX_VALUE;

    private static final int[] NUMBERS = {
        LEAST, LEAST + 1, LEAST + 10, LEAST + 20, -1000000000, -65536, -64, -32, -7, -6, -5, -4, -3, -2, -1, 0, 1, 2, 3, 4, 5,
        6, 7, 8, 9, 10, 11, 12, 15, 16, 19, 20, 22, 29, 30, 31, 32, 33, 64, 65, 98, 99, 100, 126, 127, 256, 9998, 9999,
        10000, 65537, 65601, 1000000000, MOST - 1, MOST,
    };

    /** Fewer numbers, for calls that take three. */
    private static final int[] FEW = {LEAST, -65536, -3, -2, -1, 0, 1, 2, 5, 6, 9, 10, 32, 99, 100, 9999, 10000, MOST};

    private static final Checks CHECKS = new Checks();

    private final Scene scene;
    private final List<Long> view;

    private RefusalsTest(Scene scene) {
        this.scene = scene;
        this.view = scene.viewBehind(x -> { });
    }

    public static void main(String[] args) {
        for (Scene scene : Scene.values()) {
            RefusalsTest test = new RefusalsTest(scene);
            test.theScene();
            test.books();
            test.touches();
            test.bread();
            test.days();
            test.onlyQuestions();
        }
        CHECKS.end();
    }

    /** A call by up to three numbers. */
    private interface Call {
        long on(OthersHands x, int a, int b, int c);
    }

    /** The refusal of a call by these numbers; TAKEN if it is not refused. */
    private interface Rule {
        int of(int a, int b, int c);
    }

    private boolean noMan(int man) {
        return man < 0 || man > 5;
    }

    private boolean noThing(int thing) {
        return thing < 0 || thing >= scene.things;
    }

    private static boolean not(int least, int v, int most) {
        return v < least || v > most;
    }

    /** What the scene is said to be is what it is. */
    private void theScene() {
        OthersHands x = scene.make();
        CHECKS.due(scene + ": signs", scene.signs, x.told(0));
        CHECKS.due(scene + ": things", scene.things, x.told(1));
        CHECKS.due(scene + ": sights", scene.sights, x.told(5));
        CHECKS.holds(scene + ": text", scene.goodText == (x.fault() == NONE));
        CHECKS.holds(scene + ": ways", scene.aWay == (x.filled(-1) > 0));
        for (int man = 0; man < 6; man++) {
            CHECKS.holds(scene + ": partner of " + man, scene.hasPartner(man) == (x.told(10 + man) != NONE));
        }
    }

    private void check(String name, Call call, Rule rule, int a, int b, int c) {
        int refusal = rule.of(a, b, c);
        String row = scene + ": " + name + " by " + a + ", " + b + ", " + c;
        long answer = call.on(scene.make(), a, b, c);
        if (refusal == TAKEN) {
            CHECKS.holds(row + " is taken, answered " + answer, answer >= 0 || answer == NONE);
        } else {
            CHECKS.due(row, name.equals("share") ? LOST + refusal : refusal, answer);
            CHECKS.holds(row + " changes nothing", view.equals(scene.viewBehind(x -> call.on(x, a, b, c))));
        }
    }

    private void byNone(String name, Call call, Rule rule) {
        check(name, call, rule, 0, 0, 0);
    }

    private void byOne(String name, Call call, Rule rule) {
        for (int a : NUMBERS) {
            check(name, call, rule, a, 0, 0);
        }
    }

    private void byTwo(String name, Call call, Rule rule) {
        for (int a : NUMBERS) {
            for (int b : FEW) {
                check(name, call, rule, a, b, 0);
                check(name, call, rule, b, a, 0);
            }
        }
    }

    private void byThree(String name, Call call, Rule rule) {
        for (int a : FEW) {
            for (int b : FEW) {
                for (int c : FEW) {
                    check(name, call, rule, a, b, c);
                }
            }
        }
    }

    private void books() {
        byOne("say", (x, a, b, c) -> x.say(a),
            (a, b, c) -> not(33, a, 126) ? OUTSIDE : scene.signs == 60 ? FULL : TAKEN);
        byNone("wipe", (x, a, b, c) -> x.wipe(), (a, b, c) -> TAKEN);
        byNone("fault", (x, a, b, c) -> x.fault(), (a, b, c) -> TAKEN);
        byNone("book", (x, a, b, c) -> x.book(), (a, b, c) -> scene.goodText ? TAKEN : NO);
        byTwo("thing", (x, a, b, c) -> x.thing(a, b),
            (a, b, c) -> noThing(a) ? UNKNOWN : not(0, b, 4) ? OUTSIDE : TAKEN);
        byTwo("join", (x, a, b, c) -> x.join(a, b),
            (a, b, c) -> noMan(a) || noMan(b) || a == b ? UNKNOWN
                : scene.hasPartner(a) || scene.hasPartner(b) ? STATE : TAKEN);
        byOne("part", (x, a, b, c) -> x.part(a), (a, b, c) -> noMan(a) ? UNKNOWN : TAKEN);
        byTwo("set", (x, a, b, c) -> x.set(a, b),
            (a, b, c) -> a == 0 && !not(0, b, 9) || a == 1 && !not(0, b, 1) || a == 2 && !not(0, b, 10)
                ? TAKEN : OUTSIDE);
        byTwo("loaves", (x, a, b, c) -> x.loaves(a, b),
            (a, b, c) -> noThing(a) ? UNKNOWN : not(0, b, 9) ? OUTSIDE : TAKEN);
    }

    private void touches() {
        byTwo("touched", (x, a, b, c) -> x.touched(a, b),
            (a, b, c) -> noThing(a) ? UNKNOWN : not(0, b, 2) ? OUTSIDE : TAKEN);
        byTwo("may", (x, a, b, c) -> x.may(a, b),
            (a, b, c) -> noMan(a) ? UNKNOWN : not(0, b, 1) ? OUTSIDE : TAKEN);
        byTwo("near", (x, a, b, c) -> x.near(a, b), (a, b, c) -> noThing(a) || noMan(b) ? UNKNOWN : TAKEN);
        byThree("share", (x, a, b, c) -> x.share(a, b, c),
            (a, b, c) -> noThing(a) || noMan(b) ? UNKNOWN : not(0, c, 1) ? OUTSIDE : TAKEN);
        byTwo("seen", (x, a, b, c) -> x.seen(a, b),
            (a, b, c) -> noMan(a) || noThing(b) ? UNKNOWN : scene.sights == 6 ? FULL : TAKEN);
        byNone("forget", (x, a, b, c) -> x.forget(), (a, b, c) -> TAKEN);
        byOne("filled", (x, a, b, c) -> x.filled(a), (a, b, c) -> TAKEN);
        byTwo("sure", (x, a, b, c) -> x.sure(a, b),
            (a, b, c) -> noThing(a) ? UNKNOWN : not(0, b, 1) ? OUTSIDE : !scene.aWay ? STATE : TAKEN);
    }

    private void bread() {
        byOne("fed", (x, a, b, c) -> x.fed(a), (a, b, c) -> TAKEN);
        byNone("lack", (x, a, b, c) -> x.lack(), (a, b, c) -> TAKEN);
        byTwo("makers", (x, a, b, c) -> x.makers(a, b),
            (a, b, c) -> not(1, a, 6) || not(0, b, 1) ? OUTSIDE : TAKEN);
        byTwo("washed", (x, a, b, c) -> x.washed(a, b), (a, b, c) -> noThing(a) || noMan(b) ? UNKNOWN : TAKEN);
        byOne("married", (x, a, b, c) -> x.married(a), (a, b, c) -> TAKEN);
    }

    private void days() {
        byThree("days", (x, a, b, c) -> x.days(a, b, c),
            (a, b, c) -> c != -1 && noThing(c) ? UNKNOWN : not(0, a, 9999) || not(1, b, 99) ? OUTSIDE : TAKEN);
        byOne("image", (x, a, b, c) -> x.image(a), (a, b, c) -> not(0, a, 1) ? OUTSIDE : TAKEN);
        byOne("restore", (x, a, b, c) -> x.restore(a),
            (a, b, c) -> not(0, a, 1) ? OUTSIDE : scene.isKept(a) ? TAKEN : STATE);
        byOne("told", (x, a, b, c) -> x.told(a),
            (a, b, c) -> !not(0, a, 5) || !not(10, a, 15) || !not(20, a, 19 + scene.things) ? TAKEN : OUTSIDE);
    }

    /** Calls that only ask change nothing either. */
    private void onlyQuestions() {
        dueNoChange("fault", x -> x.fault());
        for (int i = -1; i < 6; i++) {
            int n = i;
            dueNoChange("filled", x -> x.filled(n));
            dueNoChange("fed", x -> x.fed(n));
            dueNoChange("married", x -> x.married(n));
        }
        dueNoChange("lack", x -> x.lack());
        dueNoChange("makers", x -> x.makers(2, 1));
        dueNoChange("days", x -> x.days(9999, 99, -1));
        dueNoChange("told", x -> x.told(0));
        for (int man = 0; man < 6; man++) {
            int n = man;
            dueNoChange("may", x -> x.may(n, 0));
            dueNoChange("taint", x -> x.may(n, 1));
        }
        for (int thing = 0; thing < scene.things; thing++) {
            int n = thing;
            dueNoChange("thing", x -> x.thing(n, 0));
            dueNoChange("touched", x -> x.touched(n, 0));
            dueNoChange("barred", x -> x.touched(n, 1));
            dueNoChange("by tenths", x -> x.touched(n, 2));
            dueNoChange("near", x -> x.near(n, 0));
            dueNoChange("share", x -> x.share(n, 0, 0));
            dueNoChange("washed", x -> x.washed(n, 0));
            dueNoChange("days", x -> x.days(0, 99, n));
        }
        if (scene.aWay && scene.things > 0) {
            dueNoChange("sure", x -> x.sure(0, 0));
        }
    }

    private void dueNoChange(String name, Scene.Deed deed) {
        CHECKS.holds(scene + ": " + name + " changes nothing", view.equals(scene.viewBehind(deed)));
    }
}
