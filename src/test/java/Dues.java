/** Counts the calls whose answer is not the one that is due, and prints each of them. */
final class Dues {
    private int looked = 0;
    private int wrong = 0;

    void due(String call, long got, long want) {
        looked++;
        if (got != want) {
            wrong++;
            System.out.println(call + " answered " + got + ", due is " + want);
        }
    }

    void holds(String what, boolean is) {
        due(what, is ? 1 : 0, 1);
    }

    int looked() {
        return looked;
    }

    int wrong() {
        return wrong;
    }

    /** Ends the program, by exit code 1 if one answer was wrong. */
    void end() {
        System.out.println(looked + " answers looked at, " + wrong + " not as due");
        System.exit(wrong == 0 && looked > 0 ? 0 : 1);
    }
}
