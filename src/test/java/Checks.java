/** Counts the answers that are not as due, and tells each of them. */
final class Checks {
    private static int wrong = 0;
    private static int told = 0;

    private Checks() {
    }

    static void due(String call, long got, long want) {
        told++;
        if (got != want) {
            wrong++;
            if (wrong <= 50) {
                System.out.println(call + " answered " + got + ", due is " + want);
            }
        }
    }

    static void holds(String what, boolean held) {
        due(what, held ? 1 : 0, 1);
    }

    static int wrong() {
        return wrong;
    }

    /** Ends the program with exit code 1 if one answer was wrong. */
    static void end() {
        System.out.println(told + " answers, " + wrong + " of them not as due");
        if (wrong != 0) {
            System.exit(1);
        }
    }
}
