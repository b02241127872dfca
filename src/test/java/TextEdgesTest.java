/**
 * THE FAULT, sign by sign: behind each kind of beginning each of the 94 signs is said, and either it can stand
 * there or it is the first that can not. Which ones can is written out here.
 */
public final class TextEdgesTest {
    private static final int NONE = -6, OUTSIDE = -2, FULL = -4, NO = -5;
    private static final String MEN = "ABCDEF";

    private static final Checks CHECKS = new Checks();

    public static void main(String[] args) {
        theFirstMaking();
        whatItIsMadeFrom();
        tools();
        handsBehindAll();
        thingsAtMost();
        asksAtMost();
        signsAtMost();
        theFirstFaultCounts();
        moreMustCome();
        noSigns();
        lettersAreExact();
        CHECKS.end();
    }

    private static void due(String call, long want, long got) {
        CHECKS.due(call, want, got);
    }

    private static void dueFault(String text, int want) {
        due("fault of " + text, want, Books.with(text).fault());
    }

    /** Behind a beginning just these signs can stand; each other one is THE FAULT. */
    private static void standing(String beginning, String signs) {
        int place = beginning.length();
        boolean whole = beginning.isEmpty() || beginning.endsWith(";");
        dueFault(beginning, whole ? NONE : place);
        for (char sign = 33; sign <= 126; sign++) {
            boolean stands = signs.indexOf(sign) >= 0;
            int want = !stands ? place : sign == ';' ? NONE : place + 1;
            OthersHands x = Books.with(beginning + sign);
            due("fault of " + beginning + " and " + sign, want, x.fault());
            due("book of " + beginning + " and " + sign + " is refused", want == NONE ? 0 : 1, x.book() == NO ? 1 : 0);
        }
    }

    private static void theFirstMaking() {
        standing("", MEN + "?");
        standing("A", "BCDEF?;");
        standing("B", "CDEF?;");
        standing("E", "F?;");
        standing("F", "?;");
        standing("AB", "CDEF?;");
        standing("AC", "DEF?;");
        standing("AE", "F?;");
        standing("AF", "?;");
        standing("ABC", ";");
        standing("ABF", ";");
        standing("DEF", ";");
        standing("?", ";");
        standing("A?", ";");
        standing("F?", ";");
        standing("AB?", ";");
        standing("EF?", ";");
    }

    private static void whatItIsMadeFrom() {
        standing("A;", "a+?" + MEN);
        standing("A;a", "+?" + MEN);
        standing("A;A;", "ab+?" + MEN);
        standing("A;A;a", "b+?" + MEN);
        standing("A;A;b", "+?" + MEN);
        standing("A;A;ab", "+?" + MEN);
        standing("A;A;A;", "abc+?" + MEN);
        standing("A;A;A;a", "bc+?" + MEN);
        standing("A;A;A;b", "c+?" + MEN);
        standing("A;A;A;c", "+?" + MEN);
        standing("A;A;A;ac", "+?" + MEN);
        standing("A;A;A;ab", "+?" + MEN);
        String nine = Books.times(9, "A;");
        standing(nine, "abcdefghi+?" + MEN);
        standing(nine + "a", "bcdefghi+?" + MEN);
        standing(nine + "e", "fghi+?" + MEN);
        standing(nine + "h", "i+?" + MEN);
        standing(nine + "i", "+?" + MEN);
        standing(nine + "hi", "+?" + MEN);
    }

    private static void tools() {
        standing("A;+", "a");
        standing("A;a+", "a");
        standing("A;+a", "?" + MEN);
        standing("A;a+a", "?" + MEN);
        standing("A;A;ab+", "ab");
        standing("A;A;+b", "?" + MEN);
        standing("A;A;b+a", "?" + MEN);
        standing("A;A;ab+b", "?" + MEN);
        String nine = Books.times(9, "A;");
        standing(nine + "+", "abcdefghi");
        standing(nine + "hi+", "abcdefghi");
        standing(nine + "hi+i", "?" + MEN);
    }

    private static void handsBehindAll() {
        standing("A;aB", "CDEF?;");
        standing("A;aF", "?;");
        standing("A;a?", ";");
        standing("A;a+aB", "CDEF?;");
        standing("A;+a?", ";");
        standing("A;A;ab+bDEF", ";");
        standing("A;A;ab+bDE?", ";");
    }

    private static void thingsAtMost() {
        String nine = Books.times(9, "A;");
        due("nine things", 9, Books.with(nine).book());
        due("ten things", 10, Books.with(nine + "A;").book());
        standing(nine + "A", "BCDEF?;");
        standing(nine + "A;", "");
        dueFault(nine + "A;A;", 20);
        dueFault(nine + "A;jA;", 20);
        due("eleven things", NO, Books.with(nine + "A;A;").book());
    }

    private static void asksAtMost() {
        standing("?;?;?;", "abc+?" + MEN);
        standing("?;?;?;?", ";");
        standing("?;?;?;?;", "abcd+" + MEN);
        standing("?;?;?;?;a", "bcd+" + MEN);
        standing("?;?;?;?;+", "abcd");
        standing("?;?;?;?;+a", MEN);
        standing("?;?;?;?;A", "BCDEF;");
        standing("?;?;?;?;AB", "CDEF;");
        standing("?;?;?;?;F", ";");
        standing("A;?;AB?;C;?;F?;", "abcdef+" + MEN);
        OthersHands x = Books.bookOf("?;?;?;?;");
        Books.write(x, "?;?;?;?;");
        due("4 in each book", NONE, x.fault());
        x.say('?');
        due("5 in one book", 8, x.fault());
        x.wipe();
        Books.write(x, "?;?;?;?;");
        due("4 behind wiped ones", NONE, x.fault());
    }

    private static void signsAtMost() {
        String signs53 = "ABC;" + Books.times(7, "a+aABC;");
        String signs60 = signs53 + "b+hABC;";
        OthersHands x = Books.with(signs60);
        due("60 signs", 60, x.told(0));
        due("a good text of 60 signs", NONE, x.fault());
        due("sign 61 is full", FULL, x.say(';'));
        due("sign 61 is not taken", NONE, x.fault());
        due("sign 61 outside", OUTSIDE, x.say(127));
        due("a book of 60 signs", 9, x.book());
        due("behind the book the pad has room", 1, x.say('A'));
        dueFault(signs53 + "b+hABC", 59);
        dueFault(signs53 + "ab+hABC", 60);
        dueFault(signs53 + "ab+hABD", 60);
        dueFault(signs53 + "b+hABCD", 59);
        OthersHands cut = Books.with(signs53 + "ab+hABC;");
        due("60 signs and more must come", 60, cut.fault());
        due("60 signs and more must come: no book", NO, cut.book());
        due("60 signs and more must come: they stay", 60, cut.told(0));
        OthersHands bad = Books.with(Books.times(60, "~"));
        due("60 signs that can not stand", 0, bad.fault());
        due("60 signs that can not stand: they go", 60, bad.wipe());
    }

    private static void theFirstFaultCounts() {
        dueFault("G;H;", 0);
        dueFault("A;G;H;", 2);
        dueFault("AA;BB;", 1);
        dueFault("A;aB;baC", 6);
        dueFault("ABCDEF", 3);
        dueFault("A;a;A;", 3);
        dueFault("A;bB;G", 2);
        dueFault("!A;", 0);
        dueFault("A;!", 2);
        dueFault("A!;", 1);
        dueFault("A;~", 2);
        dueFault("A~", 1);
    }

    private static void moreMustCome() {
        OthersHands x = new OthersHands();
        String text = "A;BC?;ab+aD;";
        int[] want = {1, NONE, 3, 4, 5, NONE, 7, 8, 9, 10, 11, NONE};
        for (int i = 0; i < want.length; i++) {
            x.say(text.charAt(i));
            due("fault of " + text.substring(0, i + 1), want[i], x.fault());
        }
        due("fault has changed nothing: book", 3, x.book());
    }

    private static void noSigns() {
        OthersHands x = new OthersHands();
        due("no signs: fault", NONE, x.fault());
        due("no signs: a book", 0, x.book());
        due("no signs: no things", 0, x.told(1));
        Books.write(x, "A;");
        due("a book", 1, x.book());
        due("behind a book: no signs, fault", NONE, x.fault());
        due("no signs: a book without things again", 0, x.book());
        due("no signs: no things again", 0, x.told(1));
        x.say('G');
        due("a fault", 0, x.fault());
        x.wipe();
        due("no signs behind wipe: fault", NONE, x.fault());
    }

    /** Letters just below and above the ranges, and the other case, are no letters of men or things. */
    private static void lettersAreExact() {
        dueFault("@;", 0);
        dueFault("G;", 0);
        dueFault("f;", 0);
        dueFault("Z;", 0);
        dueFault("A;`B;", 2);
        dueFault("A;bB;", 2);
        dueFault("A;+`B;", 3);
        dueFault("A;+bB;", 3);
        dueFault("A;+AB;", 3);
        dueFault("A:", 1);
        dueFault("A<", 1);
        dueFault("A>", 1);
        dueFault("A@", 1);
        dueFault("A;*aB;", 2);
        dueFault("A;,aB;", 2);
    }
}
