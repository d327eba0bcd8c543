/** Counts and prints the answers that are not those due. */
final class Check {
    private static int asked = 0;
    private static int wrong = 0;
    private static int sentences = 0;
    private static String sentence = "";

    private Check() {
    }

    /** A test of one sentence of a promise begins: wrong answers are told with it. */
    static void sentence(int promise, String words) {
        sentences++;
        sentence = "promise " + promise + ", \"" + words + "\": ";
    }

    static void due(String what, long got, long want) {
        asked++;
        if (got != want) {
            wrong++;
            System.out.println(sentence + what + " answered " + got + ", due is " + want);
        }
    }

    static void yes(String what, boolean got) {
        due(what, number(got), 1);
    }

    static void no(String what, boolean got) {
        due(what, number(got), 0);
    }

    static int number(boolean answer) {
        return answer ? 1 : 0;
    }

    /** Prints the sum of it; ends the program with exit code 1 if an answer was wrong. */
    static void end(String test) {
        String ofSentences = sentences == 0 ? "" : sentences + " sentences, ";
        System.out.println(test + ": " + ofSentences + asked + " answers, " + wrong + " wrong");
        if (wrong != 0 || asked == 0) {
            System.exit(1);
        }
    }
}
