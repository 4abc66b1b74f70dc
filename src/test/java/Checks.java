import java.util.Arrays;

/** Counts and prints the answers that are not the ones due, and ends the program with 1 if there were any. */
final class Checks {
    /** Far above what the longest test needs on a slow machine. */
    private static final int MOST_MILLISECONDS = 300_000;

    private String sentence = "";
    private int looked = 0;
    private int wrong = 0;

    Checks() {
        Thread watch = new Thread(Checks::endWhatNeverEnds);
        watch.setDaemon(true);
        watch.start();
    }

    /** A call that fails to end is a wrong answer, too, and must not hold up what runs the tests. */
    private static void endWhatNeverEnds() {
        try {
            Thread.sleep(MOST_MILLISECONDS);
            System.out.println("a call does not end");
            Runtime.getRuntime().halt(1);
        } catch (InterruptedException e) {
            Thread.currentThread().interrupt();
        }
    }

    /** The document's words that the next answers are held against; ".." stands for some left out. */
    void says(String words) {
        sentence = words;
    }

    void due(String what, long got, long want) {
        look(got == want, what, Long.toString(got), Long.toString(want));
    }

    void due(String what, boolean got, boolean want) {
        look(got == want, what, Boolean.toString(got), Boolean.toString(want));
    }

    void due(String what, int[] got, int... want) {
        look(Arrays.equals(got, want), what, Arrays.toString(got), Arrays.toString(want));
    }

    private void look(boolean right, String what, String got, String want) {
        looked++;
        if (!right) {
            wrong++;
            System.out.println("\"" + sentence + "\": " + what + " answered " + got + ", due is " + want);
        }
    }

    void finish() {
        System.out.println(looked + " answers looked at, " + wrong + " wrong");
        if (wrong != 0 || looked == 0) {
            System.exit(1);
        }
    }
}
