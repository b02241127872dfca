/** The bounds that part 3 of the document's terms names, and promises 19 to 23 at them: bread, makers, marriages. */
public final class BreadBoundsTest {
    private static final int NONE = -6, UNKNOWN = -1, OUTSIDE = -2;
    private static final int LEAST = Integer.MIN_VALUE, MOST = Integer.MAX_VALUE;

    private static final Checks CHECKS = new Checks();

    public static void main(String[] args) {
        noLoaves();
        loavesForAllUpToSix();
        nobodyMay();
        asManyAsCanBe();
        theFirstByMen();
        noneBehindAll();
        fedByNoMan();
        fullTables();
        lackIsTheLeastAsBits();
        lackOfPartners();
        makersByTheirNumber();
        makersAndPartners();
        makersKnowNoBook();
        makersRefused();
        washedFromNothingToTen();
        washedByPartners();
        washedByTools();
        washedRefused();
        marriedWithoutThings();
        marriedAll();
        marriedTheLastTwo();
        marriedBarsLeast();
        marriedFirstOfSeveral();
        marriedByDepthAndTools();
        marriedByNoMan();
        CHECKS.end();
    }

    private static void due(String call, long want, long got) {
        CHECKS.due(call, want, got);
    }

    private static void dueFed(String what, OthersHands x, int... meals) {
        int most = 0;
        for (int man = 0; man < 6; man++) {
            due(what + ": fed(" + man + ")", meals[man], x.fed(man));
            most += meals[man] == NONE ? 0 : 1;
        }
        due(what + ": fed(-1)", most, x.fed(-1));
    }

    private static void noLoaves() {
        OthersHands x = Books.bookOf("A;B;");
        dueFed("no loaves", x, NONE, NONE, NONE, NONE, NONE, NONE);
        due("no loaves: lack", 1, x.lack());
        x.loaves(0, 1);
        x.loaves(0, 0);
        dueFed("no loaves any more", x, NONE, NONE, NONE, NONE, NONE, NONE);
        dueFed("no things", new OthersHands(), NONE, NONE, NONE, NONE, NONE, NONE);
    }

    /** A thing by a hand that is not told is for all. */
    private static void loavesForAllUpToSix() {
        OthersHands x = Books.bookOf("?;");
        for (int v = 0; v <= 9; v++) {
            x.loaves(0, v);
            int[] meals = new int[6];
            for (int man = 0; man < 6; man++) {
                meals[man] = man < v ? 0 : NONE;
            }
            dueFed(v + " loaves for all", x, meals);
            due(v + " loaves for all: lack", v < 6 ? (2 << v) - 1 : NONE, x.lack());
        }
    }

    private static void nobodyMay() {
        OthersHands x = Books.bookOf("ABC;DEF;");
        x.loaves(0, 9);
        x.loaves(1, 9);
        dueFed("each side's bread to the other", x, 1, 1, 1, 0, 0, 0);
        due("each side's bread: lack", NONE, x.lack());
        x.join(0, 3);
        x.join(1, 4);
        x.join(2, 5);
        dueFed("nobody may", x, NONE, NONE, NONE, NONE, NONE, NONE);
        due("nobody may: lack", 1, x.lack());
    }

    private static void asManyAsCanBe() {
        OthersHands x = Books.bookOf("F;E;ABC;");
        x.loaves(0, 1);
        x.loaves(1, 1);
        x.loaves(2, 1);
        dueFed("the least that leaves the most", x, 0, 1, NONE, 2, NONE, NONE);
        x.loaves(0, 3);
        x.loaves(1, 0);
        x.loaves(2, 3);
        dueFed("all six, by two things", x, 0, 0, 0, 2, 2, 2);
        x.loaves(2, 2);
        x.loaves(0, 4);
        dueFed("all six, the first thing to 3 too", x, 0, 0, 0, 0, 2, 2);
        x.loaves(0, 2);
        x.loaves(2, 9);
        dueFed("five", x, 0, 0, NONE, 2, 2, 2);
        due("five: lack", 7, x.lack());
    }

    private static void theFirstByMen() {
        OthersHands x = Books.bookOf("?;?;");
        x.loaves(0, 3);
        x.loaves(1, 3);
        dueFed("the least thing first", x, 0, 0, 0, 1, 1, 1);
        OthersHands tight = Books.bookOf("A;AB;");
        tight.loaves(0, 2);
        tight.loaves(1, 9);
        dueFed("1 has the first, then the others the least", tight, NONE, 0, 0, 1, 1, 1);
        OthersHands last = Books.bookOf("?;F;");
        last.loaves(0, 1);
        last.loaves(1, 9);
        dueFed("the last needs the first thing", last, 1, 1, 1, 1, 1, 0);
    }

    private static void noneBehindAll() {
        OthersHands x = Books.bookOf("?;");
        x.loaves(0, 1);
        dueFed("a thing comes ahead of none", x, 0, NONE, NONE, NONE, NONE, NONE);
        OthersHands barred = Books.bookOf("A;");
        barred.loaves(0, 2);
        dueFed("who may not has none", barred, NONE, 0, 0, NONE, NONE, NONE);
        due("who may not: lack", 1, barred.lack());
    }

    private static void fedByNoMan() {
        OthersHands x = Books.bookOf("?;");
        x.loaves(0, 9);
        int[] wrong = {-2, -3, -6, 6, 7, 32, 64, LEAST, MOST};
        for (int i : wrong) {
            due("fed(" + i + ")", NONE, x.fed(i));
        }
        due("fed(-1)", 6, x.fed(-1));
        due("fed(5)", 0, x.fed(5));
    }

    private static void fullTables() {
        OthersHands x = Books.bookOf("ABC;BCD;CDE;DEF;AEF;ABF;ABC;DEF;ACE;BDF;");
        for (int thing = 0; thing < 10; thing++) {
            x.loaves(thing, 9);
        }
        dueFed("ten things, nine loaves each", x, 1, 2, 3, 0, 0, 0);
        due("ten things: lack", NONE, x.lack());
        due("ten things: eaten in 99 days", 90, x.days(0, 99, -1));
        OthersHands tenth = Books.bookOf(Books.times(9, "A;") + "B;");
        tenth.loaves(9, 1);
        dueFed("a loaf of the tenth thing", tenth, 9, NONE, NONE, NONE, NONE, NONE);
        due("a loaf of the tenth thing: lack", 2, tenth.lack());
    }

    private static void lackIsTheLeastAsBits() {
        OthersHands x = Books.bookOf("F;?;");
        x.loaves(0, 5);
        due("the sixth alone", 32, x.lack());
        x.loaves(0, 3);
        due("the first four come ahead of the sixth", 15, x.lack());
        x.loaves(0, 4);
        due("the first five come ahead of the sixth", 31, x.lack());
        x.loaves(1, 1);
        due("all six", 63, x.lack());
        x.loaves(1, 2);
        due("nobody lacks", NONE, x.lack());
        OthersHands pair = Books.bookOf("EF;ABC;");
        pair.loaves(0, 9);
        pair.loaves(1, 1);
        due("two who may have one loaf together", 48, pair.lack());
    }

    private static void lackOfPartners() {
        OthersHands x = Books.bookOf("D;");
        x.loaves(0, 9);
        due("the maker", 8, x.lack());
        x.join(3, 5);
        due("the maker is less than his partner", 8, x.lack());
        x.part(3);
        x.join(3, 2);
        due("his partner is less", 4, x.lack());
    }

    private static void dueMakers(String what, OthersHands x, int c, int bakers) {
        due(what + ": makers by " + c, Integer.bitCount(bakers), x.makers(c, 0));
        due(what + ": makers by " + c + " as bits", bakers, x.makers(c, 1));
    }

    private static void makersByTheirNumber() {
        int[] bakers = {63, 7, 3, 3, 3, 3};
        for (int c = 1; c <= 6; c++) {
            dueMakers("nobody joined", new OthersHands(), c, bakers[c - 1]);
        }
    }

    private static void makersAndPartners() {
        OthersHands x = new OthersHands();
        x.join(0, 1);
        int[] one = {63, 7, 5, 5, 5, 5};
        for (int c = 1; c <= 6; c++) {
            dueMakers("0 and 1 joined", x, c, one[c - 1]);
        }
        x.join(2, 3);
        x.join(4, 5);
        for (int c = 1; c <= 6; c++) {
            dueMakers("all joined", x, c, one[c - 1]);
        }
        OthersHands others = new OthersHands();
        others.join(4, 5);
        others.join(2, 3);
        for (int c = 3; c <= 6; c++) {
            dueMakers("2 and 3, 4 and 5 joined", others, c, 3);
        }
    }

    private static void makersKnowNoBook() {
        OthersHands x = Books.bookOf("ABC;aDEF;");
        x.loaves(0, 9);
        x.set(0, 9);
        dueMakers("a book", x, 6, 3);
        dueMakers("a book", x, 1, 63);
    }

    private static void makersRefused() {
        OthersHands x = new OthersHands();
        int[] wrong = {LEAST, -1, 0, 7, 8, MOST};
        for (int c : wrong) {
            due("makers(" + c + ", 0)", OUTSIDE, x.makers(c, 0));
            due("makers(" + c + ", 1)", OUTSIDE, x.makers(c, 1));
        }
        int[] wrongWhat = {LEAST, -1, 2, MOST};
        for (int what : wrongWhat) {
            due("makers(1, " + what + ")", OUTSIDE, x.makers(1, what));
            due("makers(6, " + what + ")", OUTSIDE, x.makers(6, what));
        }
    }

    /** In a chain of ten, the hands of the first lie so far back as a thing's number. */
    private static void washedFromNothingToTen() {
        OthersHands x = Books.bookOf("A;aB;bB;cB;dB;eB;fB;gB;hB;iB;");
        for (int depth = 0; depth <= 9; depth++) {
            x.set(0, depth);
            for (int thing = 0; thing < 10; thing++) {
                int want = thing > depth ? 0 : depth + 1 - thing;
                due("washed for 0 of " + thing + " at depth " + depth, want, x.washed(thing, 0));
            }
            due("washed for 1 of 9 at depth " + depth, depth + 1, x.washed(9, 1));
            due("washed for 5 of 9 at depth " + depth, 0, x.washed(9, 5));
        }
    }

    private static void washedByPartners() {
        OthersHands x = Books.bookOf("A;aB;bC;");
        x.join(5, 2);
        x.join(0, 1);
        due("for the partner of the last maker", 3, x.washed(2, 5));
        due("for the last maker", 3, x.washed(2, 2));
        due("the nearer of both counts", 2, x.washed(2, 0));
        due("for one who has a partner that touched nothing", 0, x.washed(0, 5));
        x.join(3, 4);
        due("for a couple of strangers", 0, x.washed(2, 3));
    }

    private static void washedByTools() {
        OthersHands x = Books.bookOf("A;+aB;");
        due("tools do not count", 0, x.washed(1, 0));
        x.set(1, 1);
        due("tools count", 2, x.washed(1, 0));
        due("washing changes nothing", 3, x.touched(1, 0));
    }

    private static void washedRefused() {
        OthersHands x = Books.bookOf("A;");
        int[] wrong = {LEAST, -1, 6, 32, MOST};
        for (int n : wrong) {
            due("washed(0, " + n + ")", UNKNOWN, x.washed(0, n));
            due("washed(" + n + ", 0)", UNKNOWN, x.washed(n, 0));
        }
        due("washed(1, 0)", UNKNOWN, x.washed(1, 0));
    }

    private static void dueMarried(String what, OthersHands x, int more, int... plan) {
        due(what + ": married(-1)", more, x.married(-1));
        for (int man = 0; man < 6; man++) {
            due(what + ": married(" + man + ")", plan[man], x.married(man));
        }
    }

    private static void marriedWithoutThings() {
        OthersHands x = new OthersHands();
        dueMarried("no things", x, 0, 1, 0, 3, 2, 5, 4);
        due("nobody is joined in fact", NONE, x.told(10));
        due("nobody is joined in fact", 1, x.join(0, 2));
        dueMarried("no things, 0 and 2 joined", x, 0, 2, 3, 0, 1, 5, 4);
    }

    private static void marriedAll() {
        OthersHands x = Books.bookOf("A;B;");
        x.join(0, 5);
        x.join(1, 3);
        x.join(2, 4);
        dueMarried("nobody is single", x, 0, 5, 3, 4, 1, 2, 0);
    }

    private static void marriedTheLastTwo() {
        OthersHands x = Books.bookOf("A;B;F;");
        x.join(1, 3);
        x.join(2, 4);
        dueMarried("two are single, though it bars", x, 2, 5, 3, 4, 1, 2, 0);
    }

    private static void marriedBarsLeast() {
        dueMarried("makers of one thing", Books.bookOf("AF;AF;"), 0, 5, 2, 1, 4, 3, 0);
        dueMarried("makers of three", Books.bookOf("AD;BE;CF;"), 0, 3, 4, 5, 0, 1, 2);
        dueMarried("three of one", Books.bookOf("DEF;"), 1, 1, 0, 3, 2, 5, 4);
        dueMarried("more things weigh more", Books.bookOf("AB;AC;AC;"), 2, 2, 3, 0, 1, 5, 4);
        dueMarried("B's nearest would cost the others more", Books.bookOf("D;D;CE;AF;AF;AF;"), 2, 5, 3, 4, 1, 2, 0);
        dueMarried("all of ten things", Books.bookOf(Books.times(10, "A;")), 10, 1, 0, 3, 2, 5, 4);
    }

    private static void marriedFirstOfSeveral() {
        dueMarried("whoever it is, one more", Books.bookOf("A;"), 1, 1, 0, 3, 2, 5, 4);
        dueMarried("0's partner, the least, behind the fewest", Books.bookOf("BC;"), 0, 3, 2, 1, 0, 5, 4);
        dueMarried("two of the three touched nothing", Books.bookOf("EF;CD;"), 0, 1, 0, 3, 2, 5, 4);
    }

    private static void marriedByDepthAndTools() {
        OthersHands x = Books.bookOf("A;+aB;");
        due("tools do not count", 2, x.married(-1));
        x.set(1, 1);
        due("tools count: two touch one thing", 1, x.married(-1));
        x.set(0, 0);
        due("depth 0", 2, x.married(-1));
    }

    private static void marriedByNoMan() {
        OthersHands x = new OthersHands();
        int[] wrong = {-2, -3, -6, 6, 7, 32, 64, LEAST, MOST};
        for (int i : wrong) {
            due("married(" + i + ")", NONE, x.married(i));
        }
    }
}
