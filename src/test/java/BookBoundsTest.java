/** The bounds that part 1 of the document's terms names, and promises 1 to 10 at them: books, men, laws, loaves. */
public final class BookBoundsTest {
    private static final int NONE = -6, UNKNOWN = -1, OUTSIDE = -2, STATE = -3, FULL = -4, NO = -5;

    private static final Checks CHECKS = new Checks();

    public static void main(String[] args) {
        codes();
        signsBetweenEmptyAndFull();
        bookEmptiesThePad();
        bookDropsLoavesAndSights();
        bookKeepsTheRest();
        refusedBookKeepsAll();
        bookWithoutThings();
        thingsAreNumberedAsTold();
        rowsOfAnEarlierBookAreGone();
        handsAsBits();
        partnersByTwos();
        partedByEither();
        lawsAtFirst();
        lawsAtTheirBounds();
        lawsAreApart();
        loavesAtTheirBounds();
        loavesOfTenThings();
        depthBackToNineSteps();
        depthAtFirst();
        depthNothing();
        depthBySeveralWays();
        toolsCount();
        toolsOfWhatIsBehind();
        barredOnes();
        CHECKS.end();
    }

    private static void due(String call, long want, long got) {
        CHECKS.due(call, want, got);
    }

    private static void codes() {
        for (int sign = -300; sign <= 300; sign++) {
            boolean taken = sign >= 33 && sign <= 126;
            due("say(" + sign + ")", taken ? 1 : OUTSIDE, new OthersHands().say(sign));
        }
    }

    private static void signsBetweenEmptyAndFull() {
        OthersHands x = new OthersHands();
        due("no signs", 0, x.told(0));
        for (int n = 1; n <= 60; n++) {
            due("say: how many", n, x.say('!' + n));
        }
        due("say beyond 60", FULL, x.say('A'));
        due("say beyond 60 again", FULL, x.say('A'));
        due("wipe the full pad", 60, x.wipe());
        due("wipe the empty pad", 0, x.wipe());
        due("wiped: signs", 0, x.told(0));
        due("wiped: say", 1, x.say('A'));
        due("wipe one", 1, x.wipe());
    }

    private static void bookEmptiesThePad() {
        OthersHands x = Books.with("A;B;");
        due("book", 2, x.book());
        due("book: no signs are left", 0, x.told(0));
        due("book: nothing to wipe", 0, x.wipe());
        due("book: the next sign is the first", 1, x.say('C'));
        due("book: of the next sign alone", 1, x.fault());
    }

    private static void bookDropsLoavesAndSights() {
        OthersHands x = Books.bookOf("A;B;");
        x.loaves(0, 9);
        x.loaves(1, 9);
        x.seen(0, 1);
        Books.write(x, "A;B;");
        due("the same book again", 2, x.book());
        due("loaves of 0 go", 0, x.told(20));
        due("loaves of 1 go", 0, x.told(21));
        due("sights go", 0, x.told(5));
        due("sights: none to forget", 0, x.forget());
        x.loaves(1, 5);
        x.book();
        Books.write(x, "A;B;");
        x.book();
        due("loaves do not come back behind a book without things", 0, x.told(21));
        OthersHands ten = Books.bookOf(Books.times(10, "A;"));
        ten.loaves(9, 9);
        Books.write(ten, Books.times(10, "A;"));
        ten.book();
        due("loaves of the tenth go", 0, ten.told(29));
    }

    private static void bookKeepsTheRest() {
        OthersHands x = Books.bookOf("A;");
        x.join(2, 4);
        x.set(0, 7);
        x.set(1, 1);
        x.set(2, 6);
        x.image(1);
        due("a book of no signs", 0, x.book());
        due("partners stay", 4, x.told(12));
        due("depth stays", 7, x.told(2));
        due("tools stay", 1, x.told(3));
        due("tenths stay", 6, x.told(4));
        due("an image stays", 1, x.restore(1));
        due("an image stays: things", 1, x.told(1));
        due("an image that was not kept", STATE, x.restore(0));
    }

    private static void refusedBookKeepsAll() {
        OthersHands x = Books.bookOf("AF;a?;");
        x.loaves(1, 2);
        x.seen(1, 0);
        Books.write(x, "A;a");
        due("more must come", NO, x.book());
        due("signs stay", 3, x.told(0));
        due("things stay", 2, x.told(1));
        due("hands stay", 33, x.thing(0, 0));
        due("the hand that is not told stays", 1, x.thing(1, 4));
        due("loaves stay", 2, x.told(21));
        due("sights stay", 1, x.told(5));
        x.say('B');
        x.say(';');
        due("more has come", 2, x.book());
        due("the new book's hands", 2, x.thing(1, 0));
    }

    private static void bookWithoutThings() {
        OthersHands x = new OthersHands();
        due("no signs are a book", 0, x.book());
        due("thing 0", UNKNOWN, x.thing(0, 0));
        due("loaves of 0", UNKNOWN, x.loaves(0, 0));
        due("touched 0", UNKNOWN, x.touched(0, 0));
        due("near 0", UNKNOWN, x.near(0, 0));
        due("seen 0", UNKNOWN, x.seen(0, 0));
        due("sure 0", UNKNOWN, x.sure(0, 0));
        due("washed 0", UNKNOWN, x.washed(0, 0));
        due("days of 0", UNKNOWN, x.days(0, 1, 0));
        due("told 20", OUTSIDE, x.told(20));
        due("may", 0, x.may(0, 0));
        due("taint", 0, x.may(0, 1));
        due("filled", 1, x.filled(-1));
        due("filled 0", NONE, x.filled(0));
        due("fed", 0, x.fed(-1));
        due("fed 0", NONE, x.fed(0));
        due("lack", 1, x.lack());
        due("makers", 2, x.makers(6, 0));
        due("married", 0, x.married(-1));
        due("days", 0, x.days(0, 99, -1));
    }

    private static void thingsAreNumberedAsTold() {
        OthersHands x = Books.bookOf("A;B;C;D;E;F;AB;BC;+hCD;ahDE;");
        int[] hands = {1, 2, 4, 8, 16, 32, 3, 6, 12, 24};
        for (int thing = 0; thing < 10; thing++) {
            due("hands of " + thing, hands[thing], x.thing(thing, 0));
        }
        due("tool of 8", 7, x.thing(8, 3));
        due("9 is made from", 0, x.thing(9, 1));
        due("9 is made from, too", 7, x.thing(9, 2));
        due("thing 10", UNKNOWN, x.thing(10, 0));
        OthersHands last = Books.bookOf(Books.times(9, "A;") + "hi+iF;");
        due("made from h", 7, last.thing(9, 1));
        due("made from i", 8, last.thing(9, 2));
        due("by tool i", 8, last.thing(9, 3));
        due("all hands of the tenth are told", 0, last.thing(9, 4));
        OthersHands asked = Books.bookOf(Books.times(9, "A;") + "?;");
        due("a hand of the tenth is not told", 1, asked.thing(9, 4));
    }

    private static void rowsOfAnEarlierBookAreGone() {
        OthersHands x = Books.bookOf("A;B;ab+aCDE;ab+bC?;");
        Books.write(x, "F;F;F;E;");
        x.book();
        for (int thing = 2; thing < 4; thing++) {
            due("hands anew", thing == 2 ? 32 : 16, x.thing(thing, 0));
            due("made from nothing", NONE, x.thing(thing, 1));
            due("made from nothing more", NONE, x.thing(thing, 2));
            due("by no tool", NONE, x.thing(thing, 3));
            due("all hands are told", 0, x.thing(thing, 4));
        }
        // A reading that ended in a fault leaves nothing behind either.
        Books.write(x, "A;a+aBC?G");
        due("a fault", 8, x.fault());
        x.wipe();
        Books.write(x, "A;B;");
        x.book();
        due("hands behind a fault", 2, x.thing(1, 0));
        due("made from nothing behind a fault", NONE, x.thing(1, 1));
        due("by no tool behind a fault", NONE, x.thing(1, 3));
        due("all hands are told behind a fault", 0, x.thing(1, 4));
    }

    private static void handsAsBits() {
        OthersHands x = Books.bookOf("A;F;AF;DEF;?;F?;EF?;");
        int[] hands = {1, 32, 33, 56, 0, 32, 48};
        int[] asked = {0, 0, 0, 0, 1, 1, 1};
        for (int thing = 0; thing < hands.length; thing++) {
            due("hands of " + thing, hands[thing], x.thing(thing, 0));
            due("not told of " + thing, asked[thing], x.thing(thing, 4));
        }
    }

    private static void partnersByTwos() {
        OthersHands x = new OthersHands();
        for (int man = 0; man < 6; man++) {
            due("no partner at first", NONE, x.told(10 + man));
            due("no partner at first: part", NONE, x.part(man));
            due("a man and himself", UNKNOWN, x.join(man, man));
        }
        due("join 0 and 5", 1, x.join(0, 5));
        due("join 1 and 4", 1, x.join(1, 4));
        due("join 3 and 2", 1, x.join(3, 2));
        for (int man = 0; man < 6; man++) {
            due("partner of " + man, 5 - man, x.told(10 + man));
            for (int other = 0; other < 6; other++) {
                due("all have one", man == other ? UNKNOWN : STATE, x.join(man, other));
            }
        }
    }

    private static void partedByEither() {
        OthersHands x = new OthersHands();
        x.join(0, 5);
        x.join(1, 2);
        due("part by the second", 0, x.part(5));
        due("parted: 0", NONE, x.told(10));
        due("parted: 5", NONE, x.told(15));
        due("others stay: 1", 2, x.told(11));
        due("others stay: 2", 1, x.told(12));
        due("part again", NONE, x.part(0));
        due("one of them is free, the other is not", STATE, x.join(0, 1));
        due("one of them is free, the other is not", STATE, x.join(2, 5));
        due("both are free", 1, x.join(5, 0));
        due("part by the first", 5, x.part(0));
    }

    private static void lawsAtFirst() {
        OthersHands x = new OthersHands();
        due("depth at first", 2, x.set(0, 2));
        due("tools at first", 0, x.set(1, 0));
        due("tenths at first", 1, x.set(2, 1));
    }

    private static void lawsAtTheirBounds() {
        int[] most = {9, 1, 10};
        for (int which = 0; which < 3; which++) {
            OthersHands x = new OthersHands();
            int before = x.told(2 + which);
            for (int v = -3; v <= 13; v++) {
                boolean fits = v >= 0 && v <= most[which];
                due("set(" + which + ", " + v + ")", fits ? before : OUTSIDE, x.set(which, v));
                before = fits ? v : before;
                due("set(" + which + ", " + v + "): told", before, x.told(2 + which));
            }
        }
        for (int which = -3; which <= 6; which++) {
            boolean fits = which >= 0 && which <= 2;
            due("set(" + which + ", 0) is refused", fits ? 0 : 1, new OthersHands().set(which, 0) == OUTSIDE ? 1 : 0);
        }
    }

    private static void lawsAreApart() {
        OthersHands x = new OthersHands();
        x.set(0, 9);
        due("depth alone: tools", 0, x.told(3));
        due("depth alone: tenths", 1, x.told(4));
        x.set(1, 1);
        due("tools alone: depth", 9, x.told(2));
        due("tools alone: tenths", 1, x.told(4));
        x.set(2, 10);
        due("tenths alone: depth", 9, x.told(2));
        due("tenths alone: tools", 1, x.told(3));
    }

    private static void loavesAtTheirBounds() {
        OthersHands x = Books.bookOf("A;");
        int before = 0;
        for (int v = -3; v <= 12; v++) {
            boolean fits = v >= 0 && v <= 9;
            due("loaves(0, " + v + ")", fits ? before : OUTSIDE, x.loaves(0, v));
            before = fits ? v : before;
            due("loaves(0, " + v + "): told", before, x.told(20));
        }
    }

    private static void loavesOfTenThings() {
        OthersHands x = Books.bookOf(Books.times(10, "A;"));
        for (int thing = 0; thing < 10; thing++) {
            due("at first none of " + thing, 0, x.loaves(thing, 9 - thing));
        }
        for (int thing = 0; thing < 10; thing++) {
            due("loaves of " + thing, 9 - thing, x.told(20 + thing));
        }
        due("loaves of 10", UNKNOWN, x.loaves(10, 1));
        due("told of 10", OUTSIDE, x.told(30));
    }

    /** In a chain of ten, the hands of the first are so many steps back as a thing's number. */
    private static void depthBackToNineSteps() {
        OthersHands x = Books.bookOf("A;aB;bB;cB;dB;eB;fB;gB;hB;iB;");
        for (int depth = 0; depth <= 9; depth++) {
            x.set(0, depth);
            for (int thing = 0; thing < 10; thing++) {
                int want = (thing > 0 ? 2 : 0) + (thing <= depth ? 1 : 0);
                due("touched of " + thing + " at depth " + depth, want, x.touched(thing, 0));
            }
            due("taint at depth " + depth, (2 << depth) - 1, x.may(0, 1));
        }
    }

    private static void depthAtFirst() {
        OthersHands x = Books.bookOf("A;aB;bC;cD;");
        due("two steps back count", 7, x.touched(2, 0));
        due("three steps back do not", 14, x.touched(3, 0));
    }

    private static void depthNothing() {
        OthersHands x = Books.bookOf("A;B;ab+aCF;");
        x.set(0, 0);
        due("own hands alone", 36, x.touched(2, 0));
        x.set(1, 1);
        due("own hands alone, tools or not", 36, x.touched(2, 0));
        x.set(0, 1);
        due("both that it is made from", 39, x.touched(2, 0));
    }

    private static void depthBySeveralWays() {
        OthersHands x = Books.bookOf("A;B;aC;bD;cdE;");
        due("behind both that it is made from", 31, x.touched(4, 0));
        x.set(0, 1);
        due("both that it is made from", 28, x.touched(4, 0));
        OthersHands both = Books.bookOf("A;aB;bC;acD;dE;");
        due("by the shorter of two ways", 29, both.touched(4, 0));
        both.set(0, 3);
        due("by both ways", 31, both.touched(4, 0));
    }

    private static void toolsCount() {
        OthersHands x = Books.bookOf("A;aB;+bC;");
        due("at first tools do not count", 4, x.touched(2, 0));
        x.set(1, 1);
        due("the tool and what it is made from", 7, x.touched(2, 0));
        x.set(0, 1);
        due("the tool alone", 6, x.touched(2, 0));
        x.set(0, 0);
        due("no step back", 4, x.touched(2, 0));
        x.set(0, 9);
        x.set(1, 0);
        due("tools do not count any more", 4, x.touched(2, 0));
    }

    private static void toolsOfWhatIsBehind() {
        OthersHands x = Books.bookOf("A;+aB;+bC;cD;d+dE;");
        x.set(0, 9);
        due("made from alone", 28, x.touched(4, 0));
        x.set(1, 1);
        due("the tool of a tool of what it is made from", 31, x.touched(4, 0));
        x.set(0, 3);
        due("three steps", 30, x.touched(4, 0));
        x.set(0, 4);
        due("four steps", 31, x.touched(4, 0));
    }

    private static void barredOnes() {
        OthersHands x = Books.bookOf("A;BC;?;");
        due("touched ones", 6, x.touched(1, 1));
        x.join(1, 3);
        due("and their partners", 14, x.touched(1, 1));
        x.join(2, 0);
        due("and both partners", 15, x.touched(1, 1));
        due("touched ones alone", 6, x.touched(1, 0));
        due("a partner of one who touched it not", 5, x.touched(0, 1));
        due("nobody", 0, x.touched(2, 1));
        for (int man = 0; man < 6; man++) {
            for (int thing = 0; thing < 3; thing++) {
                int barred = x.touched(thing, 1) >> man & 1;
                due("all others may: " + man + " of " + thing, 1 - barred, x.may(man, 0) >> thing & 1);
            }
        }
        due("may: one who is free of both", 7, x.may(4, 0));
        due("may: a partner", 5, x.may(3, 0));
        due("may: barred from both", 4, x.may(0, 0));
        x.part(3);
        due("not the one he was joined with", 7, x.touched(1, 1));
    }
}
