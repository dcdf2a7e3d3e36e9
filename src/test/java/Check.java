/** Counts answers that are as due and prints those that are not. */
final class Check {
    private int right;
    private int wrong;

    void due(String call, long got, long want) {
        if (got == want) {
            right++;
            return;
        }
        wrong++;
        if (wrong <= 50) {
            System.out.println(call + " answered " + got + ", due is " + want);
        }
    }

    void holds(String what, boolean so) {
        if (so) {
            right++;
            return;
        }
        wrong++;
        System.out.println("not so: " + what);
    }

    boolean isSound() {
        return wrong == 0;
    }

    /** Prints the sum, and ends with exit code 1 if an answer was wrong. */
    void end() {
        System.out.println(right + " answers as due, " + wrong + " not");
        if (wrong > 0) {
            System.exit(1);
        }
    }
}
