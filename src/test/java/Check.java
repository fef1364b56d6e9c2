/** Compares answers with those that are due, prints the wrong ones, and ends the test. */
final class Check {
    private static int wrong = 0;
    private static int asked = 0;

    private Check() { }

    static void due(String call, long got, long want) {
        asked++;
        if (got != want) {
            wrong++;
            if (wrong <= 50) {
                System.out.println(call + " answered " + got + ", due is " + want);
            }
        }
    }

    static void holds(String what, boolean truth) {
        due(what, truth ? 1 : 0, 1);
    }

    static int wrongOnes() {
        return wrong;
    }

    static int askedOnes() {
        return asked;
    }

    static void end() {
        System.out.println(wrong == 0 ? asked + " answers, all as due" : wrong + " of " + asked + " answers are not as due");
        if (wrong != 0) {
            System.exit(1);
        }
    }
}
