/** Counts answers that are not the ones that are due; a test ends with finish(). */
final class Check {
    private static final int MOST_SHOWN = 40;
    private static int asked = 0;
    private static int wrong = 0;
    private static String heading = "";
    private static int askedAhead = 0;

    private Check() {
    }

    /** What follows is the test of this sentence of the document, which stands ahead of each wrong answer. */
    static void of(String promise, String sentence) {
        endHeading();
        heading = promise + ", \"" + sentence + "\": ";
        askedAhead = asked;
    }

    private static void endHeading() {
        if (!heading.isEmpty() && asked == askedAhead) {
            wrong++;
            System.out.println(heading + "nothing was asked");
        }
    }

    static void due(String call, long got, long want) {
        due(call, Long.toString(got), Long.toString(want));
    }

    static void due(String call, boolean got, boolean want) {
        due(call, Boolean.toString(got), Boolean.toString(want));
    }

    static void due(String call, String got, String want) {
        asked++;
        if (!got.equals(want)) {
            wrong++;
            if (wrong <= MOST_SHOWN) {
                System.out.println(heading + call + " answered " + got + ", due is " + want);
            }
        }
    }

    static void finish() {
        endHeading();
        if (asked == 0) {
            System.out.println("nothing was asked");
            System.exit(1);
        }
        if (wrong != 0) {
            System.out.println(wrong + " of " + asked + " answers are not as due");
            System.exit(1);
        }
    }
}
