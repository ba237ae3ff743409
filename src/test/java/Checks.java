/** Counts and prints the answers that are not as due; a test ends with exit code 1 if there was one. */
final class Checks {
    private int wrong;
    private int asked;
    private int sentences;
    private String words = "";

    /** The words of the document that the checks behind this hold the class against, with their promise's number. */
    void sentence(String promiseAndWords) {
        sentences++;
        words = "[" + promiseAndWords + "] ";
    }

    void due(String call, long want, long got) {
        asked++;
        if (got != want) {
            tellWrong(call + " answered " + got + ", due is " + want);
        }
    }

    void same(String what, String want, String got) {
        asked++;
        if (!got.equals(want)) {
            tellWrong(what + " is " + got + ", due is " + want);
        }
    }

    void holds(String what, boolean is) {
        due(what, 1, is ? 1 : 0);
    }

    private void tellWrong(String what) {
        wrong++;
        if (wrong <= 40) {
            System.out.println(words + what);
        }
    }

    int wrong() {
        return wrong;
    }

    void end() {
        String held = sentences == 0 ? "" : sentences + " sentences, ";
        System.out.println(held + asked + " answers looked at, " + wrong + " not as due");
        if (wrong != 0) {
            System.exit(1);
        }
    }
}
