/** What the tests share: compares answers, prints what is wrong, ends with exit code 1. */
final class Check {
    interface Call {
        long answer();
    }

    private static int wrong = 0;
    private static String sentence = "";

    private Check() {
    }

    /** The document's sentence that the checks from here on are about. */
    static void sentence(String quoted) {
        sentence = quoted;
    }

    static void due(String call, long got, long want) {
        if (got != want) {
            fault(call + " answered " + got + ", due is " + want);
        }
    }

    static void index(String call, Call c) {
        due(call + " (-1 for IndexOutOfBoundsException)", outcome(c), -1);
    }

    static void argument(String call, Call c) {
        due(call + " (-2 for IllegalArgumentException)", outcome(c), -2);
    }

    /** 0 for an answer, -1 and -2 for the two exceptions, -3 for any other. */
    private static int outcome(Call c) {
        try {
            c.answer();
            return 0;
        } catch (RuntimeException e) {
            return e.getClass() == IndexOutOfBoundsException.class ? -1
                    : e.getClass() == IllegalArgumentException.class ? -2 : -3;
        }
    }

    static void fault(String text) {
        wrong++;
        if (wrong <= 50) {
            System.out.println(sentence.isEmpty() ? text : "\"" + sentence + "\": " + text);
        }
    }

    static void end() {
        System.out.println(wrong == 0 ? "all answers are as due" : wrong + " answers are wrong");
        if (wrong != 0) {
            System.exit(1);
        }
    }
}
