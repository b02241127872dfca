/** The bounds that part 4 of the document's terms names, and promises 24 to 27 at them: days, images, what is told. */
public final class DayBoundsTest {
    private static final int NONE = -6, UNKNOWN = -1, OUTSIDE = -2, STATE = -3;
    private static final int LEAST = Integer.MIN_VALUE, MOST = Integer.MAX_VALUE;

    private static final Checks CHECKS = new Checks();

    public static void main(String[] args) {
        menDrawn();
        menDrawnIn99Days();
        loavesRunOut();
        theLeastThing();
        nothingInFact();
        seedsAndDaysAtTheirBounds();
        daysRefusedInOrder();
        daysWithoutThings();
        imagesAtTheirBounds();
        notYetKept();
        imageLeavesThePadOut();
        imageKeepsAllElse();
        imageOfTheFullest();
        imageStaysAsItWas();
        imagesAreApart();
        imageOfNothing();
        toldAtItsBounds();
        toldOfThings();
        CHECKS.end();
    }

    private static void due(String call, long want, long got) {
        CHECKS.due(call, want, got);
    }

    /** An object with 27 loaves that just one man may have: all others touched the things. */
    private static OthersHands onlyFor(int man) {
        String others = "ABCDEF".replace("" + (char) ('A' + man), "");
        OthersHands x = Books.bookOf(others.substring(0, 3) + ";" + Books.times(3, "a" + others.substring(3) + ";"));
        for (int thing = 1; thing <= 3; thing++) {
            x.loaves(thing, 9);
        }
        return x;
    }

    /** Seed 872 is the last whose first draw needs no leaving over: 75 times 872 and 74 are 65474. */
    private static void menDrawn() {
        int[][] rows = {
            {0, 2, 2, 2, 4, 1, 1, 1, 2, 0, 0, 1, 0},
            {1, 5, 5, 5, 4, 3, 3, 3, 5, 2, 1, 4, 2},
            {872, 2, 4, 5, 1, 0, 2, 1, 0, 2, 1, 4, 1},
            {873, 0, 2, 3, 1, 2, 4, 3, 3, 3, 3, 0, 3},
            {9998, 1, 2, 5, 1, 2, 2, 1, 5, 2, 1, 3, 5},
            {9999, 4, 5, 3, 1, 4, 4, 4, 2, 4, 2, 5, 1},
        };
        for (int man = 0; man < 6; man++) {
            OthersHands x = onlyFor(man);
            for (int[] row : rows) {
                int eaten = 0;
                for (int n = 1; n < row.length; n++) {
                    eaten += row[n] == man ? 1 : 0;
                    due("eaten by " + man + ", seed " + row[0] + ", day " + n, eaten, x.days(row[0], n, -1));
                }
            }
        }
    }

    private static void menDrawnIn99Days() {
        int[][] rows = {
            {0, 19, 19, 18, 13, 16, 14},
            {873, 17, 17, 13, 17, 16, 19},
            {9999, 15, 15, 14, 16, 16, 23},
        };
        for (int man = 0; man < 6; man++) {
            OthersHands x = onlyFor(man);
            for (int[] row : rows) {
                int eaten = row[1 + man];
                due("eaten by " + man + " in 99 days, seed " + row[0], eaten, x.days(row[0], 99, -1));
                due("the first thing goes", 0, x.days(row[0], 99, 1));
                due("left of the next", Math.max(0, 18 - eaten), x.days(row[0], 99, 2));
                due("left of the last", Math.min(9, 27 - eaten), x.days(row[0], 99, 3));
                due("left of what there was none of", 0, x.days(row[0], 99, 0));
            }
        }
    }

    private static void loavesRunOut() {
        OthersHands x = Books.bookOf("?;");
        x.loaves(0, 9);
        for (int n = 1; n <= 99; n++) {
            int eaten = Math.min(9, n);
            due("eaten in " + n + " days", eaten, x.days(n * 101, n, -1));
            due("left behind " + n + " days", 9 - eaten, x.days(n * 101, n, 0));
        }
    }

    private static void theLeastThing() {
        OthersHands x = Books.bookOf("C;?;?;");
        x.loaves(0, 9);
        x.loaves(1, 2);
        x.loaves(2, 9);
        // By seed 0 the men 2, 2, 2, 4 are drawn: 2 may not have the first thing.
        due("1 day: the second thing", 1, x.days(0, 1, 1));
        due("1 day: not the first", 9, x.days(0, 1, 0));
        due("2 days: the second is gone", 0, x.days(0, 2, 1));
        due("3 days: the third", 8, x.days(0, 3, 2));
        due("4 days: the first, for another", 8, x.days(0, 4, 0));
        due("4 days: eaten", 4, x.days(0, 4, -1));
        x.loaves(1, 0);
        x.loaves(2, 0);
        due("3 days without any", 0, x.days(0, 3, -1));
        due("the fourth eats", 1, x.days(0, 4, -1));
    }

    private static void nothingInFact() {
        OthersHands x = Books.bookOf("?;?;");
        x.loaves(0, 9);
        x.loaves(1, 5);
        due("days", 14, x.days(0, 99, -1));
        due("days again", 14, x.days(0, 99, -1));
        due("loaves as they were", 9, x.told(20));
        due("loaves as they were", 5, x.told(21));
        due("left behind a day", 8, x.days(0, 1, 0));
        due("fed as ever", 6, x.fed(-1));
    }

    private static void seedsAndDaysAtTheirBounds() {
        OthersHands x = Books.bookOf("?;");
        x.loaves(0, 1);
        int[] goodSeeds = {0, 1, 9998, 9999};
        for (int seed : goodSeeds) {
            due("seed " + seed, 1, x.days(seed, 1, -1));
        }
        int[] wrongSeeds = {LEAST, -2, -1, 10000, 10001, 65537, MOST};
        for (int seed : wrongSeeds) {
            due("seed " + seed, OUTSIDE, x.days(seed, 1, -1));
            due("seed " + seed + " of a thing", OUTSIDE, x.days(seed, 99, 0));
        }
        int[] goodDays = {1, 2, 98, 99};
        for (int n : goodDays) {
            due(n + " days", 1, x.days(0, n, -1));
        }
        int[] wrongDays = {LEAST, -1, 0, 100, 101, MOST};
        for (int n : wrongDays) {
            due(n + " days", OUTSIDE, x.days(0, n, -1));
            due(n + " days of a thing", OUTSIDE, x.days(9999, n, 0));
        }
    }

    private static void daysRefusedInOrder() {
        OthersHands x = Books.bookOf("?;");
        int[] wrong = {LEAST, -6, -2, 1, 10, 32, MOST};
        for (int thing : wrong) {
            due("thing " + thing, UNKNOWN, x.days(0, 1, thing));
            due("thing " + thing + ", seed -1", UNKNOWN, x.days(-1, 1, thing));
            due("thing " + thing + ", no days", UNKNOWN, x.days(0, 0, thing));
        }
        due("seed and days", OUTSIDE, x.days(-1, 0, -1));
    }

    private static void daysWithoutThings() {
        OthersHands x = new OthersHands();
        due("eaten of no things", 0, x.days(9999, 99, -1));
        due("no thing 0", UNKNOWN, x.days(0, 1, 0));
        due("seed outside", OUTSIDE, x.days(10000, 1, -1));
    }

    private static void imagesAtTheirBounds() {
        int[] wrong = {LEAST, -2, -1, 2, 3, 32, MOST};
        OthersHands x = new OthersHands();
        for (int n : wrong) {
            due("image(" + n + ")", OUTSIDE, x.image(n));
            due("restore(" + n + ")", OUTSIDE, x.restore(n));
        }
        due("restore(0) behind them", STATE, x.restore(0));
        due("restore(1) behind them", STATE, x.restore(1));
        due("image(0)", 1, x.image(0));
        due("image(1)", 1, x.image(1));
        for (int n : wrong) {
            due("restore(" + n + ") behind images", OUTSIDE, x.restore(n));
        }
    }

    private static void notYetKept() {
        OthersHands x = Books.bookOf("A;");
        due("restore(1)", STATE, x.restore(1));
        due("refused: things stay", 1, x.told(1));
        x.image(1);
        due("restore(0), the other is kept", STATE, x.restore(0));
        due("restore(1)", 1, x.restore(1));
        due("restore(1) again", 1, x.restore(1));
    }

    private static void imageLeavesThePadOut() {
        OthersHands x = Books.with("A;B");
        x.image(0);
        x.wipe();
        x.restore(0);
        due("an empty pad stays empty", 0, x.told(0));
        Books.write(x, Books.times(60, "C"));
        x.restore(0);
        due("a full pad stays full", 60, x.told(0));
        due("a full pad keeps its signs", 1, x.fault());
        x.wipe();
        Books.write(x, "A;aB;");
        x.restore(0);
        due("a text stays", 2, x.book());
        x.say('A');
        x.restore(0);
        due("no book is kept there", 0, x.told(1));
        due("a sign stays", 1, x.told(0));
    }

    private static void imageKeepsAllElse() {
        OthersHands x = Books.bookOf("A?;B;ab+aCD;?;");
        x.join(0, 3);
        x.set(0, 0);
        x.set(1, 1);
        x.set(2, 10);
        x.loaves(0, 9);
        x.loaves(3, 1);
        x.seen(4, 0);
        x.seen(5, 3);
        x.image(0);
        int[] view = view(x);
        Books.write(x, "F;E;");
        x.book();
        x.part(0);
        x.join(1, 2);
        x.set(0, 9);
        x.set(1, 0);
        x.set(2, 0);
        x.loaves(0, 4);
        x.seen(0, 1);
        x.seen(2, 1);
        x.restore(0);
        int[] again = view(x);
        for (int i = 0; i < view.length; i++) {
            due("restored, row " + i, view[i], again[i]);
        }
    }

    private static int[] view(OthersHands x) {
        int[] rows = new int[60];
        int n = 0;
        for (int what = 1; what < 30; what++) {
            rows[n++] = x.told(what);
        }
        for (int thing = 0; thing < 4; thing++) {
            for (int what = 0; what < 5; what++) {
                rows[n++] = x.thing(thing, what);
            }
            rows[n++] = x.sure(thing, 1);
        }
        rows[n++] = x.filled(-1);
        rows[n++] = x.filled(0);
        rows[n++] = x.filled(1);
        return rows;
    }

    /** The tenth thing and the sixth sight are kept like all others. */
    private static void imageOfTheFullest() {
        OthersHands x = Books.bookOf(Books.times(9, "A;") + "ai+bB?;");
        for (int thing = 0; thing < 10; thing++) {
            x.loaves(thing, thing);
        }
        for (int thing = 0; thing < 5; thing++) {
            x.seen(1, thing);
        }
        x.seen(5, 9);
        x.image(0);
        Books.write(x, Books.times(10, "C;"));
        x.book();
        for (int thing = 0; thing < 10; thing++) {
            x.loaves(thing, 1);
        }
        for (int sight = 0; sight < 6; sight++) {
            x.seen(4, 0);
        }
        x.restore(0);
        for (int thing = 0; thing < 10; thing++) {
            due("loaves of " + thing + " as kept", thing, x.told(20 + thing));
        }
        int[] making = {2, 0, 8, 1, 1};
        for (int what = 0; what < 5; what++) {
            due("thing(9, " + what + ") as kept", making[what], x.thing(9, what));
        }
        due("six sights as kept", 6, x.told(5));
        due("ways by the sixth sight", 4, x.filled(-1));
        due("F had the tenth thing", 31, x.sure(9, 1));
    }

    private static void imageStaysAsItWas() {
        OthersHands x = Books.bookOf("A;");
        x.loaves(0, 1);
        x.image(0);
        x.loaves(0, 2);
        x.restore(0);
        due("a change behind the image", 1, x.told(20));
        x.loaves(0, 3);
        x.join(0, 1);
        x.seen(1, 0);
        x.restore(0);
        due("a change behind the restoring: loaves", 1, x.told(20));
        due("a change behind the restoring: partner", NONE, x.told(10));
        due("a change behind the restoring: sights", 0, x.told(5));
        x.loaves(0, 4);
        x.image(0);
        x.loaves(0, 5);
        x.restore(0);
        due("a later image in its place", 4, x.told(20));
    }

    private static void imagesAreApart() {
        OthersHands x = Books.bookOf("A;");
        x.loaves(0, 1);
        x.image(0);
        x.loaves(0, 2);
        x.image(1);
        x.restore(0);
        due("image 0", 1, x.told(20));
        x.restore(1);
        due("image 1", 2, x.told(20));
        x.restore(0);
        x.image(1);
        x.loaves(0, 7);
        x.restore(1);
        due("image 1 of what image 0 was", 1, x.told(20));
    }

    private static void imageOfNothing() {
        OthersHands x = new OthersHands();
        due("image of a new object", 1, x.image(0));
        Books.write(x, "A;B;");
        x.book();
        x.join(0, 1);
        due("restore", 1, x.restore(0));
        due("no things", 0, x.told(1));
        due("no partner", NONE, x.told(10));
        due("no loaves to be told", OUTSIDE, x.told(20));
        due("thing 0", UNKNOWN, x.thing(0, 0));
    }

    private static void toldAtItsBounds() {
        OthersHands x = new OthersHands();
        int[] want = {0, 0, 2, 0, 1, 0};
        for (int what = -40; what <= 70; what++) {
            int due = what >= 0 && what <= 5 ? want[what] : what >= 10 && what <= 15 ? NONE : OUTSIDE;
            due("told(" + what + ") of a new object", due, x.told(what));
        }
        int[] wrong = {LEAST, LEAST + 1, LEAST + 10, LEAST + 20, MOST - 1, MOST};
        for (int what : wrong) {
            due("told(" + what + ")", OUTSIDE, x.told(what));
        }
    }

    private static void toldOfThings() {
        for (int things = 0; things <= 10; things++) {
            OthersHands x = Books.bookOf(Books.times(things, "A;"));
            due("told(1)", things, x.told(1));
            for (int what = 16; what <= 34; what++) {
                boolean of = what >= 20 && what < 20 + things;
                due("told(" + what + ") of " + things, of ? 0 : OUTSIDE, x.told(what));
            }
        }
    }
}
