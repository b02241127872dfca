/** Promises 1 to 27 one by one: ordinary inputs, the edges that the document names, wrong inputs. */
public final class PromisesTest {
    private static final int NONE = -6, UNKNOWN = -1, OUTSIDE = -2, STATE = -3, FULL = -4, NO = -5;
    private static final long LOST = -1000000000000000000L;
    private static final int LEAST = Integer.MIN_VALUE, MOST = Integer.MAX_VALUE;
    private static final int[] WRONG_MEN = {-1, 6, LEAST, MOST};

    private static final Checks CHECKS = new Checks();

    public static void main(String[] args) {
        newObject();
        say();
        wipe();
        fault();
        faultOfCounts();
        book();
        thing();
        join();
        part();
        set();
        loaves();
        touched();
        byTenths();
        may();
        near();
        share();
        shareExactly();
        seen();
        forget();
        filled();
        sure();
        fed();
        lack();
        makers();
        washed();
        married();
        days();
        image();
        restore();
        told();
        CHECKS.end();
    }

    private static void due(String call, long want, long got) {
        CHECKS.due(call, want, got);
    }

    private static void dueFault(String text, int want) {
        due("fault of " + text, want, Books.with(text).fault());
    }

    private static void newObject() {
        OthersHands x = new OthersHands();
        due("new: signs", 0, x.told(0));
        due("new: things", 0, x.told(1));
        due("new: depth", 2, x.told(2));
        due("new: tools", 0, x.told(3));
        due("new: tenths", 1, x.told(4));
        due("new: sights", 0, x.told(5));
        for (int man = 0; man < 6; man++) {
            due("new: partner of " + man, NONE, x.told(10 + man));
        }
        due("new: loaves", OUTSIDE, x.told(20));
        due("new: fault", NONE, x.fault());
        due("new: image 0", STATE, x.restore(0));
        due("new: image 1", STATE, x.restore(1));
        due("new: fed", 0, x.fed(-1));
        due("new: lack", 1, x.lack());
        due("new: filled", 1, x.filled(-1));
        due("new: married", 0, x.married(-1));
        due("new: days", 0, x.days(1, 99, -1));
    }

    private static void say() {
        OthersHands x = new OthersHands();
        due("say 32", OUTSIDE, x.say(32));
        due("say 127", OUTSIDE, x.say(127));
        due("say least", OUTSIDE, x.say(LEAST));
        due("say most", OUTSIDE, x.say(MOST));
        due("say 65536 + 65", OUTSIDE, x.say(65536 + 65));
        due("say: no sign yet", 0, x.told(0));
        due("say 33", 1, x.say(33));
        due("say 126", 2, x.say(126));
        for (int n = 3; n <= 60; n++) {
            due("say: sign " + n, n, x.say(65));
        }
        due("say: sign 61", FULL, x.say(65));
        due("say: outside ahead of full", OUTSIDE, x.say(32));
        due("say: still 60", 60, x.told(0));
    }

    private static void wipe() {
        OthersHands x = Books.with("A;BC");
        due("wipe", 4, x.wipe());
        due("wipe again", 0, x.wipe());
        due("wipe: fault", NONE, x.fault());
        due("wipe: say", 1, x.say('B'));
        OthersHands full = Books.with(Books.times(60, "A"));
        due("wipe 60", 60, full.wipe());
        due("wipe: say behind 60", 1, full.say('A'));
    }

    private static void fault() {
        dueFault("", NONE);
        dueFault("A;", NONE);
        dueFault("ABF;", NONE);
        dueFault("F?;", NONE);
        dueFault("A;aB;ab+aC;", NONE);
        dueFault("A;+aB;", NONE);
        dueFault("A", 1);
        dueFault("?", 1);
        dueFault(";", 0);
        dueFault("aA;", 0);
        dueFault("G;", 0);
        dueFault("AG;", 1);
        dueFault("@;", 0);
        dueFault("AA;", 1);
        dueFault("BA;", 1);
        dueFault("?A;", 1);
        dueFault("??;", 1);
        dueFault("A;;", 2);
        dueFault("A;a", 3);
        dueFault("A;a;", 3);
        dueFault("A;bB;", 2);
        dueFault("A;aaB;", 3);
        dueFault("A;Ba;", 3);
        dueFault("A;?a;", 3);
        dueFault("A;A;baA;", 5);
        dueFault("A;A;A;abcA;", 8);
        dueFault("A;+", 3);
        dueFault("A;++aB;", 3);
        dueFault("A;+;", 3);
        dueFault("A;+B;", 3);
        dueFault("A;+?;", 3);
        dueFault("A;+bB;", 3);
        dueFault("A;+a", 4);
        dueFault("A;+a;", 4);
        dueFault("A;+aaB;", 4);
        dueFault("A;+a+aB;", 4);
        dueFault("A;B+aB;", 3);
        dueFault("A;B?+a;", 4);
        // Nothing is ahead of the first thing, so + can not stand in its making.
        dueFault("+A;", 0);
        dueFault("+", 0);
        OthersHands x = Books.with("A;B");
        due("fault once", 3, x.fault());
        due("fault changes nothing", 3, x.fault());
        due("fault takes no sign", 3, x.told(0));
    }

    private static void faultOfCounts() {
        dueFault("ABCD;", 3);
        dueFault("ABC?;", 3);
        dueFault("AB?;", NONE);
        dueFault("AB?C;", 3);
        dueFault(Books.times(10, "A;"), NONE);
        dueFault(Books.times(11, "A;"), 20);
        dueFault(Books.times(10, "A;") + ";", 20);
        dueFault(Books.times(10, "A;") + "+", 20);
        dueFault(Books.times(4, "?;"), NONE);
        dueFault(Books.times(5, "?;"), 8);
        dueFault(Books.times(4, "A?;") + "B?;", 13);
        dueFault(Books.times(9, "A;") + "hi+iA;", NONE);
        dueFault(Books.times(9, "A;") + "jA;", 18);
        String signs53 = "ABC;" + Books.times(7, "a+aABC;");
        dueFault(signs53 + "b+hABC;", NONE);
        dueFault(signs53 + "ab+hABC", 60);
    }

    private static void book() {
        OthersHands x = Books.with("A;aB");
        due("book with a fault", NO, x.book());
        due("book with a fault: signs stay", 4, x.told(0));
        x.say(';');
        due("book", 2, x.book());
        due("book: pad is empty", 0, x.told(0));
        due("book: things", 2, x.told(1));
        x.loaves(0, 5);
        x.loaves(1, 7);
        x.seen(3, 0);
        x.join(0, 1);
        x.set(0, 5);
        x.set(1, 1);
        x.set(2, 9);
        x.say('G');
        due("book: bad text", NO, x.book());
        due("book: loaves stay", 7, x.told(21));
        due("book: sights stay", 1, x.told(5));
        due("book: things stay", 2, x.told(1));
        x.wipe();
        Books.write(x, "F;aE;aD;");
        due("book again", 3, x.book());
        due("book: hands", 32, x.thing(0, 0));
        due("book: loaves go", 0, x.told(20) + x.told(21) + x.told(22));
        due("book: sights go", 0, x.told(5));
        due("book: partners stay", 1, x.told(10));
        due("book: depth stays", 5, x.told(2));
        due("book: tools stay", 1, x.told(3));
        due("book: tenths stay", 9, x.told(4));
        due("book of no signs", 0, x.book());
        due("book of no signs: things", 0, x.told(1));
        due("book of no signs: thing 0", UNKNOWN, x.thing(0, 0));
        due("book of 10 things", 10, Books.with(Books.times(10, "A;")).book());
    }

    private static void thing() {
        OthersHands x = Books.bookOf("A;BF;ab+aC?;+b?;cD;");
        int[][] rows = {
            {1, NONE, NONE, NONE, 0},
            {34, NONE, NONE, NONE, 0},
            {4, 0, 1, 0, 1},
            {0, NONE, NONE, 1, 1},
            {8, 2, NONE, NONE, 0},
        };
        for (int t = 0; t < rows.length; t++) {
            for (int what = 0; what < 5; what++) {
                due("thing(" + t + ", " + what + ")", rows[t][what], x.thing(t, what));
            }
        }
        due("thing: no such thing", UNKNOWN, x.thing(5, 0));
        due("thing: -1", UNKNOWN, x.thing(-1, 0));
        due("thing: least", UNKNOWN, x.thing(LEAST, 0));
        due("thing: most", UNKNOWN, x.thing(MOST, 0));
        due("thing: what 5", OUTSIDE, x.thing(0, 5));
        due("thing: what -1", OUTSIDE, x.thing(0, -1));
        due("thing: unknown ahead of outside", UNKNOWN, x.thing(5, 5));
    }

    private static void join() {
        OthersHands x = new OthersHands();
        for (int man : WRONG_MEN) {
            due("join(" + man + ", 0)", UNKNOWN, x.join(man, 0));
            due("join(0, " + man + ")", UNKNOWN, x.join(0, man));
        }
        due("join one man", UNKNOWN, x.join(2, 2));
        due("join", 1, x.join(5, 1));
        due("join: partner of 5", 1, x.told(15));
        due("join: partner of 1", 5, x.told(11));
        due("join them again", STATE, x.join(1, 5));
        due("join: first has one", STATE, x.join(5, 2));
        due("join: second has one", STATE, x.join(2, 1));
        due("join: unknown ahead of state", UNKNOWN, x.join(5, 5));
        due("join: nothing changed", NONE, x.told(12));
        due("join others", 1, x.join(0, 2));
        due("join the last", 1, x.join(3, 4));
    }

    private static void part() {
        OthersHands x = new OthersHands();
        for (int man : WRONG_MEN) {
            due("part(" + man + ")", UNKNOWN, x.part(man));
        }
        due("part without partner", NONE, x.part(3));
        x.join(3, 0);
        due("part", 3, x.part(0));
        due("part: both", NONE, x.told(13));
        due("part: both", NONE, x.told(10));
        due("part again", NONE, x.part(3));
        due("join behind part", 1, x.join(3, 5));
    }

    private static void set() {
        OthersHands x = new OthersHands();
        int[] most = {9, 1, 10};
        int[] first = {2, 0, 1};
        for (int which = 0; which < 3; which++) {
            String name = "set(" + which + ")";
            due(name + " -1", OUTSIDE, x.set(which, -1));
            due(name + " too much", OUTSIDE, x.set(which, most[which] + 1));
            due(name + " most", OUTSIDE, x.set(which, MOST));
            due(name + " least", OUTSIDE, x.set(which, LEAST));
            due(name + " was at first", first[which], x.set(which, most[which]));
            due(name + " is told", most[which], x.told(2 + which));
            due(name + " was", most[which], x.set(which, 0));
            due(name + " was 0", 0, x.set(which, 0));
        }
        due("set(3, 0)", OUTSIDE, x.set(3, 0));
        due("set(-1, 0)", OUTSIDE, x.set(-1, 0));
        due("set(least, 0)", OUTSIDE, x.set(LEAST, 0));
    }

    private static void loaves() {
        OthersHands x = Books.bookOf("A;B;");
        due("loaves: was", 0, x.loaves(1, 9));
        due("loaves: was 9", 9, x.loaves(1, 0));
        due("loaves: was 0", 0, x.loaves(1, 4));
        due("loaves: other thing", 0, x.told(20));
        due("loaves: 10", OUTSIDE, x.loaves(0, 10));
        due("loaves: -1", OUTSIDE, x.loaves(0, -1));
        due("loaves: no such thing", UNKNOWN, x.loaves(2, 1));
        due("loaves: thing -1", UNKNOWN, x.loaves(-1, 1));
        due("loaves: unknown ahead of outside", UNKNOWN, x.loaves(2, 10));
        due("loaves: nothing changed", 4, x.told(21));
    }

    private static void touched() {
        OthersHands chain = Books.bookOf("A;aB;bC;cD;");
        int[] byDepth = {8, 12, 14, 15, 15, 15, 15, 15, 15, 15};
        for (int depth = 0; depth < 10; depth++) {
            chain.set(0, depth);
            due("touched at depth " + depth, byDepth[depth], chain.touched(3, 0));
        }
        chain.set(0, 1);
        chain.join(0, 3);
        due("touched: own alone", 12, chain.touched(3, 0));
        due("barred: partner too", 13, chain.touched(3, 1));
        due("barred: partner of one who is touched too", 11, chain.touched(1, 1));

        OthersHands shortcut = Books.bookOf("A;aB;bC;acD;");
        shortcut.set(0, 1);
        due("touched by the shorter way", 13, shortcut.touched(3, 0));

        OthersHands tools = Books.bookOf("A;aB;C;c+bD;");
        due("touched: tools do not count", 12, tools.touched(3, 0));
        tools.set(1, 1);
        due("touched: tools count", 15, tools.touched(3, 0));
        tools.set(0, 1);
        due("touched: tools at depth 1", 14, tools.touched(3, 0));

        OthersHands asked = Books.bookOf("?;aB?;");
        due("touched: ? is nobody", 0, asked.touched(0, 1));
        due("touched: told beside ?", 2, asked.touched(1, 1));
        due("touched: no such thing", UNKNOWN, asked.touched(2, 0));
        due("touched: thing -1", UNKNOWN, asked.touched(-1, 0));
        due("touched: what 3", OUTSIDE, asked.touched(0, 3));
        due("touched: what -1", OUTSIDE, asked.touched(0, -1));
        due("touched: unknown ahead of outside", UNKNOWN, asked.touched(2, 3));
    }

    private static void byTenths() {
        OthersHands x = Books.bookOf("ABC;D;abE;");
        int[] mixed = {15, 15, 8, 8, 8, 8, 0, 0, 0, 0, 0};
        int[] thirds = {7, 7, 7, 7, 0, 0, 0, 0, 0, 0, 0};
        for (int tenths = 0; tenths <= 10; tenths++) {
            x.set(2, tenths);
            due("by " + tenths + " tenths of the mixed", mixed[tenths], x.touched(2, 2));
            due("by " + tenths + " tenths of thirds", thirds[tenths], x.touched(0, 2));
            due("by " + tenths + " tenths of all", 8, x.touched(1, 2));
        }
        x.set(2, 5);
        x.join(3, 4);
        due("by tenths: partners", 24, x.touched(2, 2));
        x.set(2, 0);
        due("by no tenths: above nothing", 24, x.touched(1, 2));
    }

    private static void may() {
        OthersHands x = Books.bookOf("A;aB;bC;cD;E;");
        x.set(0, 1);
        due("may of 0", 28, x.may(0, 0));
        due("taint of 0", 3, x.may(0, 1));
        due("may of 5", 31, x.may(5, 0));
        due("taint of 5", 0, x.may(5, 1));
        x.join(5, 0);
        due("may of a partner", 28, x.may(5, 0));
        due("taint of a partner is his own", 0, x.may(5, 1));
        for (int man : WRONG_MEN) {
            due("may of man " + man, UNKNOWN, x.may(man, 0));
            due("may: unknown ahead of outside", UNKNOWN, x.may(man, 2));
        }
        due("may: what 2", OUTSIDE, x.may(0, 2));
        due("may: what -1", OUTSIDE, x.may(0, -1));
        due("may without things", 0, new OthersHands().may(0, 0));
    }

    private static void near() {
        OthersHands x = Books.bookOf("A;aB;bC;a+cD;");
        x.set(0, 0);
        due("near: own hands", 0, x.near(3, 3));
        due("near: 1", 1, x.near(3, 0));
        due("near: tools do not count", NONE, x.near(3, 1));
        due("near: beyond depth", 2, x.near(2, 0));
        x.set(1, 1);
        due("near: tools count", 2, x.near(3, 1));
        due("near: the fewest", 1, x.near(3, 0));
        x.join(4, 3);
        due("near: not by a partner", NONE, x.near(3, 4));
        for (int man : WRONG_MEN) {
            due("near: man " + man, UNKNOWN, x.near(0, man));
        }
        due("near: thing 4", UNKNOWN, x.near(4, 0));
        due("near: thing -1", UNKNOWN, x.near(-1, 0));
        due("near: 9 steps", 9, Books.bookOf("A;aB;bB;cB;dB;eB;fB;gB;hB;iB;").near(9, 0));
    }

    private static void dueShare(OthersHands x, int thing, int man, int upper, int lower) {
        due("share(" + thing + ", " + man + ", 0)", upper, x.share(thing, man, 0));
        due("share(" + thing + ", " + man + ", 1)", lower, x.share(thing, man, 1));
    }

    private static void share() {
        OthersHands x = Books.bookOf("AB;C?;abD;cE;+aF;?;bfA;");
        dueShare(x, 0, 0, 1, 2);
        dueShare(x, 1, 2, 1, 1);
        dueShare(x, 2, 0, 1, 4);
        dueShare(x, 2, 2, 1, 2);
        dueShare(x, 2, 3, 0, 1);
        dueShare(x, 3, 1, 1, 4);
        dueShare(x, 3, 4, 0, 1);
        dueShare(x, 4, 5, 1, 1);
        dueShare(x, 4, 0, 0, 1);
        dueShare(x, 5, 0, 0, 1);
        dueShare(x, 6, 2, 1, 2);
        x.set(0, 0);
        x.set(1, 1);
        x.join(0, 5);
        dueShare(x, 4, 0, 0, 1);
        dueShare(x, 3, 1, 1, 4);
        for (int man : WRONG_MEN) {
            due("share: man " + man, LOST + UNKNOWN, x.share(0, man, 0));
        }
        due("share: thing 7", LOST + UNKNOWN, x.share(7, 0, 0));
        due("share: thing -1", LOST + UNKNOWN, x.share(-1, 0, 0));
        due("share: part 2", LOST + OUTSIDE, x.share(0, 0, 2));
        due("share: part -1", LOST + OUTSIDE, x.share(0, 0, -1));
        due("share: unknown ahead of outside", LOST + UNKNOWN, x.share(7, 0, 2));
    }

    private static void shareExactly() {
        OthersHands x = Books.bookOf("ABC;D;abE;bcE;cdE;deE;efE;fgE;ghE;hiE;");
        int[][] of0 = {{1, 3}, {0, 1}, {1, 6}, {1, 12}, {1, 8}, {5, 48}, {11, 96}, {7, 64}, {43, 384}, {85, 768}};
        int[][] of3 = {{0, 1}, {1, 1}, {1, 2}, {3, 4}, {5, 8}, {11, 16}, {21, 32}, {43, 64}, {85, 128}, {171, 256}};
        for (int t = 0; t < 10; t++) {
            dueShare(x, t, 0, of0[t][0], of0[t][1]);
            dueShare(x, t, 3, of3[t][0], of3[t][1]);
            dueShare(x, t, 4, 0, 1);
        }
    }

    private static void seen() {
        OthersHands x = Books.bookOf("A;");
        for (int man : WRONG_MEN) {
            due("seen: man " + man, UNKNOWN, x.seen(man, 0));
        }
        due("seen: thing 1", UNKNOWN, x.seen(0, 1));
        due("seen: thing -1", UNKNOWN, x.seen(0, -1));
        due("seen: none yet", 0, x.told(5));
        for (int n = 1; n <= 6; n++) {
            due("seen: sight " + n, n, x.seen(1, 0));
        }
        due("seen: sight 7", FULL, x.seen(1, 0));
        due("seen: unknown ahead of full", UNKNOWN, x.seen(1, 1));
        due("seen: still 6", 6, x.told(5));
    }

    private static void forget() {
        OthersHands x = Books.bookOf("A;");
        due("forget none", 0, x.forget());
        x.seen(0, 0);
        x.seen(1, 0);
        due("forget: no way", 0, x.filled(-1));
        due("forget", 2, x.forget());
        due("forget: sights", 0, x.told(5));
        due("forget: a way again", 1, x.filled(-1));
        due("seen behind forget", 1, x.seen(1, 0));
    }

    private static void filled() {
        OthersHands two = Books.bookOf("AB?;?;");
        due("filled: ways", 24, two.filled(-1));
        due("filled: first of AB?", 2, two.filled(0));
        due("filled: first of ?", 0, two.filled(1));
        due("filled(2)", NONE, two.filled(2));
        due("filled(-2)", NONE, two.filled(-2));
        due("filled(most)", NONE, two.filled(MOST));
        due("filled(least)", NONE, two.filled(LEAST));
        due("filled: ? stays", 1, two.thing(0, 4));
        due("filled without ?", 1, Books.bookOf("A;").filled(-1));
        due("filled: 6 by 6 by 6 by 6", 1296, Books.bookOf("?;?;?;?;").filled(-1));

        OthersHands x = Books.bookOf("?;aB;b+aC;");
        x.seen(0, 1);
        due("filled: by a sight", 5, x.filled(-1));
        due("filled: first by a sight", 1, x.filled(0));
        x.seen(1, 0);
        due("filled: by two sights", 4, x.filled(-1));
        due("filled: first by two sights", 2, x.filled(0));
        x.join(2, 1);
        due("filled: by partners", 3, x.filled(-1));
        due("filled: first by partners", 3, x.filled(0));
        x.join(0, 3);
        due("filled: by more partners", 2, x.filled(-1));
        x.set(0, 0);
        due("filled: depth 0", 4, x.filled(-1));
        due("filled: first at depth 0", 0, x.filled(0));
        x.seen(1, 1);
        due("filled: a sight against told hands", 0, x.filled(-1));
        due("filled: no first", NONE, x.filled(0));

        OthersHands tools = Books.bookOf("?;B;b+aC;");
        tools.seen(0, 2);
        due("filled: tools do not count", 6, tools.filled(-1));
        tools.set(1, 1);
        due("filled: tools count", 5, tools.filled(-1));
    }

    private static void sure() {
        OthersHands x = Books.bookOf("AB?;aC;");
        x.join(2, 3);
        x.join(4, 5);
        due("sure", 3, x.sure(0, 0));
        due("could", 63, x.sure(0, 1));
        due("sure of the next", 15, x.sure(1, 0));
        x.seen(3, 0);
        due("sure: one of two partners", 51, x.sure(0, 0));
        due("could: one of two partners", 51, x.sure(0, 1));
        x.set(0, 0);
        due("sure at depth 0", 12, x.sure(1, 0));
        due("could at depth 0", 12, x.sure(1, 1));
        due("sure: thing 2", UNKNOWN, x.sure(2, 0));
        due("sure: thing -1", UNKNOWN, x.sure(-1, 0));
        due("sure: what 2", OUTSIDE, x.sure(0, 2));
        due("sure: what -1", OUTSIDE, x.sure(0, -1));
        x.seen(0, 0);
        due("sure: no way", STATE, x.sure(0, 0));
        due("could: no way", STATE, x.sure(1, 1));
        due("sure: unknown ahead of state", UNKNOWN, x.sure(2, 2));
        due("sure: outside ahead of state", OUTSIDE, x.sure(0, 2));
    }

    private static void dueFed(OthersHands x, int... want) {
        int most = 0;
        for (int man = 0; man < 6; man++) {
            due("fed(" + man + ")", want[man], x.fed(man));
            most += want[man] == NONE ? 0 : 1;
        }
        due("fed(-1)", most, x.fed(-1));
    }

    private static void fed() {
        OthersHands x = Books.bookOf("A;B;");
        dueFed(x, NONE, NONE, NONE, NONE, NONE, NONE);
        x.loaves(0, 1);
        dueFed(x, NONE, 0, NONE, NONE, NONE, NONE);
        x.loaves(1, 1);
        dueFed(x, 1, 0, NONE, NONE, NONE, NONE);
        x.loaves(0, 5);
        dueFed(x, 1, 0, 0, 0, 0, 0);
        x.loaves(0, 3);
        x.loaves(1, 9);
        dueFed(x, 1, 0, 0, 0, 1, 1);
        x.join(0, 1);
        dueFed(x, NONE, NONE, 0, 0, 0, 1);
        due("fed(6)", NONE, x.fed(6));
        due("fed(-2)", NONE, x.fed(-2));
        due("fed(most)", NONE, x.fed(MOST));
        due("fed: nothing is eaten", 3, x.told(20));

        OthersHands last = Books.bookOf("B;F;");
        last.loaves(0, 1);
        last.loaves(1, 9);
        dueFed(last, 1, 1, 1, 1, 1, 0);
        last.loaves(0, 2);
        dueFed(last, 0, 1, 1, 1, 1, 0);
    }

    private static void lack() {
        OthersHands x = Books.bookOf("F;");
        x.loaves(0, 2);
        due("lack: least as bits", 7, x.lack());
        x.loaves(0, 5);
        due("lack: the maker alone", 32, x.lack());
        x.join(5, 0);
        due("lack: his partner", 1, x.lack());
        OthersHands none = Books.bookOf("A;B;");
        none.loaves(0, 9);
        none.loaves(1, 9);
        due("lack: nobody", NONE, none.lack());
        none.join(0, 1);
        due("lack: one of two partners", 1, none.lack());
        OthersHands all = Books.bookOf("A;B;");
        all.loaves(0, 3);
        all.loaves(1, 2);
        due("lack: all together", 63, all.lack());
        all.loaves(1, 3);
        due("lack: just enough", NONE, all.lack());
    }

    private static void dueMakers(OthersHands x, int c, int bakers) {
        due("makers(" + c + ", 1)", bakers, x.makers(c, 1));
        due("makers(" + c + ", 0)", Integer.bitCount(bakers), x.makers(c, 0));
    }

    private static void makers() {
        OthersHands x = new OthersHands();
        dueMakers(x, 1, 63);
        dueMakers(x, 2, 7);
        dueMakers(x, 3, 3);
        dueMakers(x, 4, 3);
        dueMakers(x, 6, 3);
        x.join(0, 1);
        dueMakers(x, 1, 63);
        dueMakers(x, 2, 7);
        dueMakers(x, 3, 5);
        dueMakers(x, 6, 5);
        x.join(2, 3);
        dueMakers(x, 3, 5);
        x.part(0);
        dueMakers(x, 3, 3);
        due("makers(0, 0)", OUTSIDE, x.makers(0, 0));
        due("makers(7, 0)", OUTSIDE, x.makers(7, 0));
        due("makers(least, 0)", OUTSIDE, x.makers(LEAST, 0));
        due("makers(1, 2)", OUTSIDE, x.makers(1, 2));
        due("makers(1, -1)", OUTSIDE, x.makers(1, -1));
    }

    private static void washed() {
        OthersHands x = Books.bookOf("A;aB;bC;c+aD;");
        due("washed: own hands", 3, x.washed(2, 2));
        due("washed: 1 step back", 2, x.washed(2, 1));
        due("washed: 2 steps back", 1, x.washed(2, 0));
        due("washed: not barred", 0, x.washed(2, 3));
        due("washed: beyond depth", 0, x.washed(3, 0));
        x.set(1, 1);
        due("washed: tools count", 2, x.washed(3, 0));
        x.set(0, 0);
        due("washed: depth 0", 1, x.washed(2, 2));
        due("washed: depth 0, not barred", 0, x.washed(2, 1));
        x.set(0, 9);
        due("washed: depth 9", 8, x.washed(2, 0));
        x.join(0, 2);
        due("washed: by the nearer partner", 10, x.washed(2, 0));
        x.join(5, 1);
        due("washed: for a partner", 9, x.washed(2, 5));
        for (int man : WRONG_MEN) {
            due("washed: man " + man, UNKNOWN, x.washed(0, man));
        }
        due("washed: thing 4", UNKNOWN, x.washed(4, 0));
        due("washed: thing -1", UNKNOWN, x.washed(-1, 0));
        due("washed: no thing more", 4, x.told(1));
    }

    private static void dueMarried(OthersHands x, int more, int... plan) {
        due("married(-1)", more, x.married(-1));
        for (int man = 0; man < 6; man++) {
            due("married(" + man + ")", plan[man], x.married(man));
        }
    }

    private static void married() {
        dueMarried(new OthersHands(), 0, 1, 0, 3, 2, 5, 4);
        dueMarried(Books.bookOf("A;B;"), 2, 1, 0, 3, 2, 5, 4);
        dueMarried(Books.bookOf("AF;"), 0, 5, 2, 1, 4, 3, 0);
        dueMarried(Books.bookOf("ABF;"), 1, 1, 0, 3, 2, 5, 4);
        dueMarried(Books.bookOf("AD;BE;CF;"), 0, 3, 4, 5, 0, 1, 2);
        OthersHands x = Books.bookOf("ABC;D;");
        x.join(0, 5);
        dueMarried(x, 1, 5, 2, 1, 4, 3, 0);
        due("married(6)", NONE, x.married(6));
        due("married(-2)", NONE, x.married(-2));
        due("married(most)", NONE, x.married(MOST));
        due("married: nobody marries", NONE, x.told(11));
        x.join(1, 3);
        dueMarried(x, 1, 5, 3, 4, 1, 2, 0);
        x.join(2, 4);
        dueMarried(x, 0, 5, 3, 4, 1, 2, 0);
        OthersHands depth = Books.bookOf("A;aB;bC;");
        depth.set(0, 0);
        due("married at depth 0", 3, depth.married(-1));
        depth.set(0, 2);
        due("married at depth 2", 2, depth.married(-1));
    }

    private static void days() {
        // By seed 0 the men 2, 2, 2 and 4 are drawn.
        OthersHands x = Books.bookOf("C;A;");
        x.loaves(0, 9);
        x.loaves(1, 2);
        due("days: 1 day", 1, x.days(0, 1, -1));
        due("days: left behind 1 day", 1, x.days(0, 1, 1));
        due("days: 2 days", 2, x.days(0, 2, -1));
        due("days: none is left", 0, x.days(0, 2, 1));
        due("days: a day without", 2, x.days(0, 3, -1));
        due("days: 4 days", 3, x.days(0, 4, -1));
        due("days: the least thing", 8, x.days(0, 4, 0));
        due("days: all is eaten", 11, x.days(9999, 99, -1));
        due("days: nothing in fact", 9, x.told(20));
        due("days: nothing in fact", 2, x.told(21));
        due("days: thing 2", UNKNOWN, x.days(0, 1, 2));
        due("days: thing -2", UNKNOWN, x.days(0, 1, -2));
        due("days: thing least", UNKNOWN, x.days(0, 1, LEAST));
        due("days: seed -1", OUTSIDE, x.days(-1, 1, -1));
        due("days: seed 10000", OUTSIDE, x.days(10000, 1, -1));
        due("days: n 0", OUTSIDE, x.days(0, 0, 0));
        due("days: n 100", OUTSIDE, x.days(0, 100, 0));
        due("days: unknown ahead of outside", UNKNOWN, x.days(10000, 0, 2));
        x.join(2, 0);
        due("days: barred by a partner", 1, x.days(0, 4, -1));
    }

    private static void image() {
        OthersHands x = Books.bookOf("A?;aB;");
        Books.write(x, "AB");
        x.loaves(1, 3);
        x.seen(4, 0);
        x.join(0, 5);
        x.set(0, 4);
        x.set(1, 1);
        x.set(2, 7);
        due("image(2)", OUTSIDE, x.image(2));
        due("image(-1)", OUTSIDE, x.image(-1));
        due("image(most)", OUTSIDE, x.image(MOST));
        due("image(1)", 1, x.image(1));
        x.wipe();
        Books.write(x, "F;");
        x.book();
        x.part(5);
        x.join(1, 2);
        x.set(0, 0);
        x.set(1, 0);
        x.set(2, 0);
        x.say('C');
        due("image: the other was not kept", STATE, x.restore(0));
        due("image(0)", 1, x.image(0));
        due("restore(1)", 1, x.restore(1));
        dueKept(x);
        due("restore(0)", 1, x.restore(0));
        due("restored: things", 1, x.told(1));
        due("restored: partner", 2, x.told(11));
        due("restored: no partner", NONE, x.told(10));
        x.restore(1);
        dueKept(x);
    }

    private static void dueKept(OthersHands x) {
        due("restored: the pad is not", 1, x.told(0));
        due("restored: things", 2, x.told(1));
        due("restored: depth", 4, x.told(2));
        due("restored: tools", 1, x.told(3));
        due("restored: tenths", 7, x.told(4));
        due("restored: sights", 1, x.told(5));
        due("restored: partner of 0", 5, x.told(10));
        due("restored: partner of 5", 0, x.told(15));
        due("restored: partner of 1", NONE, x.told(11));
        due("restored: loaves", 3, x.told(21));
        due("restored: hands", 1, x.thing(0, 0));
        due("restored: ?", 1, x.thing(0, 4));
        due("restored: made from", 0, x.thing(1, 1));
        due("restored: ways", 4, x.filled(-1));
    }

    private static void restore() {
        OthersHands x = Books.bookOf("A;");
        due("restore(2)", OUTSIDE, x.restore(2));
        due("restore(-1)", OUTSIDE, x.restore(-1));
        due("restore(0) that was not kept", STATE, x.restore(0));
        x.image(0);
        x.loaves(0, 5);
        due("restore", 1, x.restore(0));
        due("restore: loaves", 0, x.told(20));
        x.loaves(0, 6);
        due("restore again", 1, x.restore(0));
        due("restore again: loaves", 0, x.told(20));
        x.loaves(0, 7);
        x.image(0);
        x.loaves(0, 8);
        x.restore(0);
        due("restore: the later image", 7, x.told(20));
        due("restore(1) that was not kept", STATE, x.restore(1));
    }

    private static void told() {
        OthersHands x = Books.bookOf("A;B;");
        x.say('A');
        x.loaves(1, 6);
        due("told(0)", 1, x.told(0));
        due("told(1)", 2, x.told(1));
        due("told(21)", 6, x.told(21));
        due("told(22)", OUTSIDE, x.told(22));
        int[] wrong = {-1, 6, 7, 8, 9, 16, 17, 18, 19, 29, 30, LEAST, MOST};
        for (int what : wrong) {
            due("told(" + what + ")", OUTSIDE, x.told(what));
        }
        OthersHands ten = Books.bookOf(Books.times(10, "A;"));
        ten.loaves(9, 9);
        due("told(29)", 9, ten.told(29));
        due("told(30)", OUTSIDE, ten.told(30));
    }
}
