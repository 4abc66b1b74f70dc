import java.util.Arrays;

/** Counts and prints the answers that are not the ones due, and ends the program with 1 if there were any. */
final class Checks {
    private String sentence = "";
    private int looked = 0;
    private int wrong = 0;

    /** The document's words that the next answers are held against. */
    void says(String words) {
        sentence = words;
    }

    void due(String what, long got, long want) {
        look(got == want, what, Long.toString(got), Long.toString(want));
    }

    void due(String what, boolean got, boolean want) {
        look(got == want, what, Boolean.toString(got), Boolean.toString(want));
    }

    void due(String what, int[] got, int... want) {
        look(Arrays.equals(got, want), what, Arrays.toString(got), Arrays.toString(want));
    }

    private void look(boolean right, String what, String got, String want) {
        looked++;
        if (!right) {
            wrong++;
            System.out.println("\"" + sentence + "\": " + what + " answered " + got + ", due is " + want);
        }
    }

    void finish() {
        System.out.println(looked + " answers looked at, " + wrong + " wrong");
        if (wrong != 0 || looked == 0) {
            System.exit(1);
        }
    }
}
