/**
 * Up to the 512th call everything holds: each kind of call as the last one, behind 511 others of many kinds,
 * and runs of 512 calls of one kind.
 */
public final class LastCallTest {
    private static final int NONE = -6, UNKNOWN = -1, OUTSIDE = -2, STATE = -3, FULL = -4, NO = -5;
    private static final int CALLS = 512;

    private static final Checks CHECKS = new Checks();

    /** An object whose calls are counted. */
    private static final class Counted {
        final OthersHands x = new OthersHands();
        int calls;

        OthersHands next() {
            calls++;
            if (calls > CALLS) {
                throw new IllegalStateException("a call beyond those that are promised");
            }
            return x;
        }

        void write(String text) {
            for (int i = 0; i < text.length(); i++) {
                next().say(text.charAt(i));
            }
        }
    }

    private interface Call {
        long on(OthersHands x);
    }

    public static void main(String[] args) {
        questionsAtTheEnd();
        changesAtTheEnd();
        signsAllAlong();
        sightsAllAlong();
        booksAllAlong();
        joinsAllAlong();
        lawsAllAlong();
        imagesAllAlong();
        refusalsAllAlong();
        CHECKS.end();
    }

    private static void due(String call, long want, long got) {
        CHECKS.due(call, want, got);
    }

    private static Counted town() {
        Counted t = new Counted();
        t.write("AB;C?;ab+aD;cE;?;");
        t.next().book();
        t.next().join(0, 5);
        t.next().set(1, 1);
        t.next().set(2, 3);
        for (int thing = 0; thing < 5; thing++) {
            t.next().loaves(thing, thing % 3);
        }
        t.next().seen(3, 1);
        t.next().image(1);
        t.write("A;a");
        return t;
    }

    /** Calls of many kinds that leave all as it is, so many that some are still to come. */
    private static void fill(Counted t, int still) {
        int turn = 0;
        while (t.calls < CALLS - still) {
            int n = turn % 5;
            switch (turn % 18) {
                case 0: t.next().fault(); break;
                case 1: t.next().thing(n, 0); break;
                case 2: t.next().touched(n, n % 3); break;
                case 3: t.next().may(n, 0); break;
                case 4: t.next().near(n, 1); break;
                case 5: t.next().share(n, 2, 1); break;
                case 6: t.next().filled(n - 1); break;
                case 7: t.next().sure(n, n % 2); break;
                case 8: t.next().fed(n); break;
                case 9: t.next().lack(); break;
                case 10: t.next().makers(n + 1, 0); break;
                case 11: t.next().washed(n, 2); break;
                case 12: t.next().married(n); break;
                case 13: t.next().days(turn, 99, -1); break;
                case 14: t.next().image(1); break;
                case 15: t.next().restore(1); break;
                case 16: t.next().book(); break;
                default: t.next().told(n);
            }
            turn++;
        }
    }

    private static void last(String name, long want, Call call) {
        Counted t = town();
        due(name + " early", want, call.on(t.next()));
        Counted late = town();
        fill(late, 1);
        due(name + " as the last call", want, call.on(late.next()));
        due(name + ": number of the call", CALLS, late.calls);
    }

    private static void questionsAtTheEnd() {
        last("fault", 3, x -> x.fault());
        last("thing", 3, x -> x.thing(0, 0));
        last("thing: tool", 0, x -> x.thing(2, 3));
        last("touched", 15, x -> x.touched(2, 0));
        last("barred", 47, x -> x.touched(2, 1));
        last("by tenths", 4, x -> x.touched(2, 2));
        last("may", 18, x -> x.may(5, 0));
        last("taint", 12, x -> x.may(3, 1));
        last("near", 2, x -> x.near(3, 0));
        last("share", 4, x -> x.share(3, 0, 1));
        last("share: nothing", 0, x -> x.share(3, 3, 0));
        last("filled", 24, x -> x.filled(-1));
        last("filled: first", 0, x -> x.filled(0));
        last("sure", 47, x -> x.sure(2, 0));
        last("could", 63, x -> x.sure(4, 1));
        last("fed", 3, x -> x.fed(-1));
        last("fed: 0", 1, x -> x.fed(0));
        last("lack", 7, x -> x.lack());
        last("makers", 63, x -> x.makers(1, 1));
        last("washed", 1, x -> x.washed(3, 0));
        last("married", 5, x -> x.married(0));
        // By seed 0 the men 2, 2, 2, 4 are drawn; 2 may have one loaf, of the last thing.
        last("days", 1, x -> x.days(0, 2, -1));
        last("days: left", 0, x -> x.days(0, 2, 4));
        last("told", 3, x -> x.told(0));
    }

    private static void changesAtTheEnd() {
        last("say", 4, x -> x.say('B'));
        last("wipe", 3, x -> x.wipe());
        last("book", NO, x -> x.book());
        last("join", 1, x -> x.join(1, 2));
        last("part", 5, x -> x.part(0));
        last("set", 2, x -> x.set(0, 9));
        last("loaves", 2, x -> x.loaves(2, 9));
        last("seen", 2, x -> x.seen(0, 4));
        last("forget", 1, x -> x.forget());
        last("image", 1, x -> x.image(0));
        last("restore", 1, x -> x.restore(1));
        changed("say", 4, x -> x.say('B'), x -> x.told(0));
        changed("wipe", 0, x -> x.wipe(), x -> x.told(0));
        changed("join", 2, x -> x.join(1, 2), x -> x.told(11));
        changed("part", NONE, x -> x.part(0), x -> x.told(15));
        changed("set", 8, x -> x.set(0, 0), x -> x.touched(2, 0));
        changed("loaves", 9, x -> x.loaves(2, 9), x -> x.told(22));
        changed("seen", 16, x -> x.seen(0, 4), x -> x.filled(-1));
        changed("forget", 30, x -> x.forget(), x -> x.filled(-1));
        changed("image", 1, x -> x.image(0), x -> x.restore(0));
    }

    /** A change by the 511th call is seen by the 512th. */
    private static void changed(String name, long want, Call change, Call question) {
        Counted t = town();
        fill(t, 2);
        change.on(t.next());
        due(name + " is seen by the last call", want, question.on(t.next()));
    }

    private static void signsAllAlong() {
        Counted t = new Counted();
        for (int n = 1; n < CALLS; n++) {
            due("sign " + n, n <= 60 ? n : FULL, t.next().say('A'));
        }
        due("wipe as the last call", 60, t.next().wipe());
    }

    private static void sightsAllAlong() {
        Counted t = new Counted();
        t.write("?;");
        t.next().book();
        for (int n = 1; t.calls < CALLS - 1; n++) {
            due("sight " + n, n <= 6 ? n : FULL, t.next().seen(n % 2, 0));
        }
        due("filled as the last call", 4, t.next().filled(-1));
    }

    private static void booksAllAlong() {
        Counted t = new Counted();
        int rounds = 0;
        while (t.calls + 12 <= CALLS) {
            t.write(rounds % 2 == 0 ? "A;aB;bC;" : "F;E?;D;");
            due("book " + rounds, 3, t.next().book());
            due("touched " + rounds, rounds % 2 == 0 ? 7 : 8, t.next().touched(2, 0));
            rounds++;
        }
        CHECKS.holds("many books", rounds > 40);
    }

    private static void joinsAllAlong() {
        Counted t = new Counted();
        for (int n = 0; n < CALLS / 2; n++) {
            int man = n % 6;
            int other = (n + 1 + n % 5) % 6;
            due("join " + n, 1, t.next().join(man, other));
            due("part " + n, man, t.next().part(other));
        }
    }

    private static void lawsAllAlong() {
        Counted t = new Counted();
        int before = 2;
        while (t.calls < CALLS) {
            int v = t.calls % 10;
            due("set", before, t.next().set(0, v));
            before = v;
        }
    }

    private static void imagesAllAlong() {
        Counted t = new Counted();
        t.write("A;");
        t.next().book();
        for (int n = 0; t.calls + 4 <= CALLS; n++) {
            due("image " + n, 1, t.next().image(n % 2));
            due("loaves " + n, 0, t.next().loaves(0, 5));
            due("restore " + n, 1, t.next().restore(n % 2));
            due("restored " + n, 0, t.next().told(20));
        }
    }

    private static void refusalsAllAlong() {
        Counted t = town();
        for (int turn = 0; t.calls < CALLS - 1; turn++) {
            switch (turn % 8) {
                case 0: due("say", OUTSIDE, t.next().say(32)); break;
                case 1: due("book", NO, t.next().book()); break;
                case 2: due("join", STATE, t.next().join(0, 1)); break;
                case 3: due("join", UNKNOWN, t.next().join(6, 1)); break;
                case 4: due("restore", STATE, t.next().restore(0)); break;
                case 5: due("loaves", OUTSIDE, t.next().loaves(0, 10)); break;
                case 6: due("seen", UNKNOWN, t.next().seen(0, 5)); break;
                default: due("set", OUTSIDE, t.next().set(1, 2));
            }
        }
        due("a way as the last call", 24, t.next().filled(-1));
    }
}
