/** Texts, and objects that have been told them. */
final class Books {
    private Books() {
    }

    static String times(int n, String text) {
        StringBuilder all = new StringBuilder();
        for (int i = 0; i < n; i++) {
            all.append(text);
        }
        return all.toString();
    }

    static void write(OthersHands x, String text) {
        for (int i = 0; i < text.length(); i++) {
            x.say(text.charAt(i));
        }
    }

    static OthersHands with(String text) {
        OthersHands x = new OthersHands();
        write(x, text);
        return x;
    }

    /** An object with the book of a text; the text has to be without a fault. */
    static OthersHands bookOf(String text) {
        OthersHands x = with(text);
        if (x.book() < 0) {
            throw new IllegalStateException("the book of " + text + " is not taken");
        }
        return x;
    }
}
