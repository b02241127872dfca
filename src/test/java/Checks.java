/** Counts and prints the answers that are not the ones that are due. */
final class Checks {
    private int right;
    private int wrong;

    void due(String call, long want, long got) {
        if (got == want) {
            right++;
        } else {
            wrong++;
            System.out.println(call + " answered " + got + ", due is " + want);
        }
    }

    void holds(String what, boolean holds) {
        due(what, 1, holds ? 1 : 0);
    }

    /** Prints the counts and ends the program, with exit code 1 if an answer was wrong. */
    void end() {
        System.out.println(right + " answers as due, " + wrong + " not");
        System.exit(wrong == 0 && right > 0 ? 0 : 1);
    }
}
