/** Counts and prints the answers that are not the ones due. */
final class Check {
    private int wrong = 0;
    private int asked = 0;

    void due(String what, long got, long want) {
        asked++;
        if (got != want) {
            wrong++;
            System.out.println(what + " answered " + got + ", due is " + want);
        }
    }

    void due(String what, String got, String want) {
        asked++;
        if (!got.equals(want)) {
            wrong++;
            System.out.println(what + " answered " + got + ", due is " + want);
        }
    }

    /** That a call throws IllegalArgumentException, and nothing else. */
    void refused(String what, Runnable call) {
        asked++;
        String got = "nothing";
        try {
            call.run();
        } catch (RuntimeException e) {
            got = e.getClass().getSimpleName();
        }
        if (!got.equals("IllegalArgumentException")) {
            wrong++;
            System.out.println(what + " threw " + got + ", due is IllegalArgumentException");
        }
    }

    void end(String name) {
        System.out.println(name + ": " + asked + " answers, " + wrong + " not as due");
        if (wrong != 0 || asked == 0) {
            System.exit(1);
        }
    }
}
