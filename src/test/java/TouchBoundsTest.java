/** The bounds that part 2 of the document's terms names, and promises 11 to 18 at them: touches, shares, ways. */
public final class TouchBoundsTest {
    private static final int NONE = -6, UNKNOWN = -1, OUTSIDE = -2, STATE = -3, FULL = -4;

    private static final Checks CHECKS = new Checks();

    public static void main(String[] args) {
        notToldIsNobody();
        nearFromNoneToNine();
        nearIsTheFewest();
        nearByTools();
        taint();
        shareOfHands();
        shareOfNobody();
        shareOfOneAndOfBoth();
        shareLeavesTheRestOut();
        tenthsJustAtAShare();
        tenthsOfThirds();
        tenthsOfLittle();
        tenthsAndPartners();
        sightsUpToSix();
        sightsGo();
        waysByHands();
        firstWay();
        noWay();
        sightsByDepth();
        sightsByTools();
        sightsByPartners();
        sureWithoutAsks();
        sureOfOneWay();
        sureOfACouple();
        sureAndCouldFarBack();
        sureRefusedInOrder();
        CHECKS.end();
    }

    private static void due(String call, long want, long got) {
        CHECKS.due(call, want, got);
    }

    private static void dueShare(String what, OthersHands x, int thing, int man, int upper, int lower) {
        due(what + ", upper", upper, x.share(thing, man, 0));
        due(what + ", lower", lower, x.share(thing, man, 1));
    }

    private static void notToldIsNobody() {
        OthersHands x = Books.bookOf("?;aB?;");
        due("touched", 0, x.touched(0, 0));
        due("barred", 0, x.touched(0, 1));
        due("by tenths", 0, x.touched(0, 2));
        due("touched beside one", 2, x.touched(1, 0));
        for (int man = 0; man < 6; man++) {
            due("may of " + man, man == 1 ? 1 : 3, x.may(man, 0));
            due("near of " + man, NONE, x.near(0, man));
            due("washed of " + man, 0, x.washed(0, man));
        }
        due("married: one thing has a toucher", 1, x.married(-1));
    }

    private static void nearFromNoneToNine() {
        OthersHands x = Books.bookOf("A;aB;bC;cC;dC;eC;fC;gC;hC;iC;");
        x.set(0, 0);
        for (int thing = 0; thing < 10; thing++) {
            due("near of 0 in " + thing, thing, x.near(thing, 0));
            due("near of 1 in " + thing, thing == 0 ? NONE : thing - 1, x.near(thing, 1));
            due("near of 2 in " + thing, thing < 2 ? NONE : 0, x.near(thing, 2));
            due("near of 3 in " + thing, NONE, x.near(thing, 3));
        }
    }

    private static void nearIsTheFewest() {
        OthersHands x = Books.bookOf("A;aB;bC;acD;dAE;");
        due("the shorter way", 1, x.near(3, 0));
        due("the longer way", 2, x.near(3, 1));
        due("own hands, though also behind", 0, x.near(4, 0));
        x.join(5, 0);
        due("a partner's hands are not his", NONE, x.near(4, 5));
    }

    private static void nearByTools() {
        OthersHands x = Books.bookOf("A;aB;bC;c+aD;");
        due("tools do not count", 3, x.near(3, 0));
        x.set(1, 1);
        due("tools count", 1, x.near(3, 0));
    }

    private static void taint() {
        OthersHands x = Books.bookOf("A;aB;bC;cD;E;");
        due("the first: to two steps on", 7, x.may(0, 1));
        due("the second", 14, x.may(1, 1));
        due("the last of the chain", 8, x.may(3, 1));
        due("of none", 0, x.may(5, 1));
        x.join(5, 0);
        due("a partner's taint is not his", 0, x.may(5, 1));
    }

    private static void shareOfHands() {
        OthersHands x = Books.bookOf("A;AB;ABC;A?;AB?;");
        int[] lower = {1, 2, 3, 1, 2};
        for (int thing = 0; thing < 5; thing++) {
            dueShare("one of the hands of " + thing, x, thing, 0, 1, lower[thing]);
            dueShare("no hand of " + thing, x, thing, 5, 0, 1);
        }
    }

    private static void shareOfNobody() {
        OthersHands x = Books.bookOf("?;B;abC;aD;");
        for (int man = 0; man < 6; man++) {
            dueShare("of nobody's", x, 0, man, 0, 1);
            dueShare("of what is made from nobody's alone", x, 3, man, 0, 1);
        }
        dueShare("half from nobody's", x, 2, 1, 1, 2);
        due("by tenths of nobody's, no tenths", 0, tenthsOf(x, 0, 0));
        due("by tenths of half from nobody's", 2, tenthsOf(x, 2, 5));
    }

    private static void shareOfOneAndOfBoth() {
        OthersHands x = Books.bookOf("ABC;AB;aF;abF;cdF;");
        dueShare("all of one", x, 2, 2, 1, 3);
        dueShare("half of both: 1/3 and 1/2", x, 3, 0, 5, 12);
        dueShare("half of both: 1/3 and nothing", x, 3, 2, 1, 6);
        dueShare("half of both: 1/3 and 5/12", x, 4, 0, 3, 8);
        dueShare("half of both: 1/3 and 1/6", x, 4, 2, 1, 4);
        dueShare("hands of it do not matter", x, 4, 5, 0, 1);
    }

    private static void shareLeavesTheRestOut() {
        OthersHands x = Books.bookOf("A;+aB;aC;bcD;");
        for (int round = 0; round < 4; round++) {
            x.set(0, round % 2 == 0 ? 0 : 9);
            x.set(1, round / 2);
            dueShare("depth and tools do not matter: 0", x, 3, 0, 1, 2);
            dueShare("depth and tools do not matter: 1", x, 3, 1, 1, 2);
            dueShare("depth and tools do not matter: 3", x, 3, 3, 0, 1);
        }
        x.join(3, 0);
        dueShare("partners do not matter", x, 3, 3, 0, 1);
    }

    private static int tenthsOf(OthersHands x, int thing, int tenths) {
        x.set(2, tenths);
        return x.touched(thing, 2);
    }

    /** Shares of A: 1/2, 3/4, 7/8, 15/16, 31/32; of B the rest. */
    private static void tenthsJustAtAShare() {
        OthersHands x = Books.bookOf("A;B;abC;acC;adC;aeC;afC;");
        int[] mostOfA = {10, -1, 5, 7, 8, 9, 9};
        int[] mostOfB = {-1, 10, 5, 2, 1, 0, 0};
        for (int thing = 0; thing < 7; thing++) {
            for (int tenths = 0; tenths <= 10; tenths++) {
                int want = (tenths <= mostOfA[thing] ? 1 : 0) + (tenths <= mostOfB[thing] ? 2 : 0);
                due(tenths + " tenths of " + thing, want, tenthsOf(x, thing, tenths));
            }
        }
    }

    private static void tenthsOfThirds() {
        OthersHands x = Books.bookOf("ABC;BCD;abE;");
        due("a third at 3", 7, tenthsOf(x, 0, 3));
        due("a third at 4", 0, tenthsOf(x, 0, 4));
        due("a sixth and thirds at 1", 15, tenthsOf(x, 2, 1));
        due("a sixth at 2", 6, tenthsOf(x, 2, 2));
        due("thirds at 4", 0, tenthsOf(x, 2, 4));
        due("thirds of the last three men", 56, tenthsOf(Books.bookOf("DEF;"), 0, 3));
    }

    private static void tenthsOfLittle() {
        OthersHands x = Books.bookOf("ABC;D;abE;bcE;bdE;beE;bfE;bgE;bhE;biE;");
        dueShare("the least share", x, 9, 0, 1, 768);
        dueShare("the greatest below one", x, 9, 3, 255, 256);
        due("the least share at 0", 15, tenthsOf(x, 9, 0));
        due("the least share at 1", 8, tenthsOf(x, 9, 1));
        due("255/256 at 9", 8, tenthsOf(x, 9, 9));
        due("255/256 at 10", 0, tenthsOf(x, 9, 10));
        due("1/12 at 1", 8, tenthsOf(x, 3, 1));
        due("1/6 at 1", 15, tenthsOf(x, 2, 1));
    }

    private static void tenthsAndPartners() {
        OthersHands x = Books.bookOf("A;B;abC;");
        x.join(1, 5);
        due("partners of those above the law", 35, tenthsOf(x, 2, 5));
        due("partners of nobody", 0, tenthsOf(x, 2, 6));
        x.join(2, 0);
        due("partners of those whose share is nothing", 5, tenthsOf(x, 0, 0));
        x.set(0, 0);
        due("depth does not matter", 39, tenthsOf(x, 2, 5));
    }

    private static void sightsUpToSix() {
        OthersHands x = Books.bookOf("A;B;");
        for (int n = 1; n <= 6; n++) {
            due("sight " + n, n, x.seen(n % 6, n % 2));
            due("sights told", n, x.told(5));
        }
        due("sight 7", FULL, x.seen(0, 0));
        due("sight 7 by nobody", UNKNOWN, x.seen(6, 0));
        due("sight 7 of nothing", UNKNOWN, x.seen(0, 2));
        due("still 6", 6, x.told(5));
        due("forget 6", 6, x.forget());
        due("forget none", 0, x.forget());
        due("sight 1 again", 1, x.seen(5, 1));
    }

    private static void sightsGo() {
        OthersHands x = Books.bookOf("?;");
        for (int man = 0; man < 6; man++) {
            due("ways by " + man + " sights", 6 - man, x.filled(-1));
            x.seen(man, 0);
        }
        due("ways by all six", 0, x.filled(-1));
        due("first by all six", NONE, x.filled(0));
        due("sure by all six", STATE, x.sure(0, 0));
        x.forget();
        due("ways without sights", 6, x.filled(-1));
        x.seen(0, 0);
        due("the forgotten do not come back", 5, x.filled(-1));
        due("first by one", 1, x.filled(0));
        x.seen(0, 0);
        due("told twice", 2, x.told(5));
        due("told twice: the same ways", 5, x.filled(-1));
    }

    private static void waysByHands() {
        due("nothing to fill", 1, Books.bookOf("A;").filled(-1));
        due("no things", 1, new OthersHands().filled(-1));
        due("one of six", 6, Books.bookOf("?;").filled(-1));
        due("one of five", 5, Books.bookOf("A?;").filled(-1));
        due("one of four", 4, Books.bookOf("AB?;").filled(-1));
        due("four of six", 1296, Books.bookOf("?;?;?;?;").filled(-1));
        due("four of four", 256, Books.bookOf("AB?;BC?;CD?;EF?;").filled(-1));
        due("of all kinds", 720, Books.bookOf("?;A?;AB?;?;B;").filled(-1));
    }

    private static void firstWay() {
        OthersHands x = Books.bookOf("A?;B;AB?;?;BC?;");
        int[] first = {1, 2, 0, 0};
        for (int i = 0; i < 4; i++) {
            due("the first way, ? " + i, first[i], x.filled(i));
        }
        due("no fifth ?", NONE, x.filled(4));
        due("no ? ahead of the first", NONE, x.filled(-2));
        due("no ? 1 where there is one alone", NONE, Books.bookOf("?;A;").filled(1));
        due("no ? at all", NONE, Books.bookOf("A;").filled(0));
        x.seen(0, 3);
        x.seen(1, 3);
        due("the first that is left", 2, x.filled(2));
        due("the others as before", 0, x.filled(3));
    }

    private static void noWay() {
        OthersHands x = Books.bookOf("A;?;");
        x.seen(0, 0);
        due("told hands against a sight", 0, x.filled(-1));
        due("no first", NONE, x.filled(0));
        due("no first ? beyond", NONE, x.filled(1));
        due("sure", STATE, x.sure(1, 0));
        due("could", STATE, x.sure(1, 1));
        x.set(0, 0);
        due("at any depth", 0, x.filled(-1));
        x.forget();
        due("a way again", 0, x.sure(1, 0));
        due("a way again: could", 63, x.sure(1, 1));
    }

    private static void sightsByDepth() {
        OthersHands x = Books.bookOf("?;aB;bC;cD;");
        x.seen(0, 3);
        due("three steps back at depth 2", 6, x.filled(-1));
        x.set(0, 3);
        due("three steps back at depth 3", 5, x.filled(-1));
        x.set(0, 9);
        due("three steps back at depth 9", 5, x.filled(-1));
        x.set(0, 0);
        x.seen(1, 3);
        due("another's hands at depth 0", 6, x.filled(-1));
        x.set(0, 2);
        due("another's hands at depth 2", 0, x.filled(-1));
        x.set(0, 1);
        due("another's hands at depth 1", 6, x.filled(-1));
    }

    private static void sightsByTools() {
        OthersHands x = Books.bookOf("?;+aB;");
        x.seen(5, 1);
        due("tools do not count", 6, x.filled(-1));
        due("could: tools do not count", 2, x.sure(1, 1));
        x.set(1, 1);
        due("tools count", 5, x.filled(-1));
        due("could: tools count", 31, x.sure(1, 1));
    }

    private static void sightsByPartners() {
        OthersHands x = Books.bookOf("AB?;");
        x.join(2, 3);
        due("partners alone", 4, x.filled(-1));
        x.seen(2, 0);
        due("a sight of one who has a partner", 2, x.filled(-1));
        due("the first behind both", 4, x.filled(0));
        x.part(3);
        due("parted", 3, x.filled(-1));
        due("the first behind one", 3, x.filled(0));
        x.join(2, 0);
        due("his partner's hands are told", 0, x.filled(-1));
    }

    private static void sureWithoutAsks() {
        OthersHands x = Books.bookOf("A;aB;C;");
        x.join(1, 5);
        for (int thing = 0; thing < 3; thing++) {
            due("sure is barred", x.touched(thing, 1), x.sure(thing, 0));
            due("could is barred", x.touched(thing, 1), x.sure(thing, 1));
        }
    }

    private static void sureOfOneWay() {
        OthersHands x = Books.bookOf("?;");
        due("sure of six ways", 0, x.sure(0, 0));
        due("could of six ways", 63, x.sure(0, 1));
        for (int man = 0; man < 5; man++) {
            x.seen(man, 0);
        }
        due("one way", 1, x.filled(-1));
        due("sure of one way", 32, x.sure(0, 0));
        due("could of one way", 32, x.sure(0, 1));
    }

    private static void sureOfACouple() {
        OthersHands x = Books.bookOf("?;");
        x.join(4, 5);
        for (int man = 0; man < 3; man++) {
            x.seen(man, 0);
        }
        due("three ways", 3, x.filled(-1));
        due("sure of three ways", 0, x.sure(0, 0));
        due("could of three ways", 56, x.sure(0, 1));
        x.seen(3, 0);
        due("two ways", 2, x.filled(-1));
        due("one of a couple, so both", 48, x.sure(0, 0));
        due("one of a couple, so both: could", 48, x.sure(0, 1));
    }

    private static void sureAndCouldFarBack() {
        OthersHands x = Books.bookOf("?;aB;bC;cD?;");
        due("two steps back", 6, x.sure(2, 0));
        due("two steps back: could", 63, x.sure(2, 1));
        due("three steps back, and its own", 14, x.sure(3, 0));
        x.seen(0, 3);
        due("its own ? by a sight: could", 62, x.sure(3, 1));
        due("the far ? is free of the sight", 63, x.sure(0, 1));
        x.set(0, 3);
        due("the far ? is not free any more", 62, x.sure(0, 1));
        x.set(0, 0);
        due("own hands alone", 4, x.sure(2, 1));
    }

    private static void sureRefusedInOrder() {
        OthersHands x = Books.bookOf("A;");
        x.seen(0, 0);
        due("no such thing, no such what, no way", UNKNOWN, x.sure(1, 2));
        due("no such what, no way", OUTSIDE, x.sure(0, 2));
        due("no such what, no way", OUTSIDE, x.sure(0, -1));
        due("no way", STATE, x.sure(0, 1));
    }
}
