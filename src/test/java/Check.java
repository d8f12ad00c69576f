import java.util.function.IntSupplier;

/** Counts and prints the answers that are not as due. */
final class Check {
    private static int asked = 0;
    private static int wrong = 0;
    private static int askedBefore = 0;
    private static String sentence = "";

    private Check() {
    }

    /** What is asked from here on tests this sentence of the document. */
    static void sentence(String words) {
        endSentence();
        askedBefore = asked;
        sentence = words;
    }

    private static void endSentence() {
        if (!sentence.isEmpty() && asked == askedBefore) {
            wrong++;
            System.out.println("nothing is asked for: " + sentence);
        }
    }

    static void due(String call, Object want, Object got) {
        asked++;
        if (!want.equals(got)) {
            wrong++;
            System.out.println(
                    (sentence.isEmpty() ? "" : "[" + sentence + "] ") + call + " answered " + got + ", due is " + want);
        }
    }

    static void answers(String call, int want, IntSupplier asks) {
        due(call, String.valueOf(want), outcome(asks));
    }

    static void passes(String call, Runnable asks) {
        answers(call, 0, () -> {
            asks.run();
            return 0;
        });
    }

    static void refusesArgument(String call, Runnable asks) {
        refuses(call, "IllegalArgumentException", asks);
    }

    static void refusesState(String call, Runnable asks) {
        refuses(call, "IllegalStateException", asks);
    }

    static void refusesIndex(String call, Runnable asks) {
        refuses(call, "IndexOutOfBoundsException", asks);
    }

    private static void refuses(String call, String exception, Runnable asks) {
        due(call, "throws " + exception, outcome(() -> {
            asks.run();
            return 0;
        }));
    }

    /** A call's answer or the very class of its exception, as a text. */
    static String outcome(IntSupplier asks) {
        try {
            return String.valueOf(asks.getAsInt());
        } catch (RuntimeException e) {
            return "throws " + e.getClass().getSimpleName();
        }
    }

    static void end() {
        endSentence();
        System.out.println(wrong == 0 ? asked + " answers are as due" : wrong + " answers are not as due");
        if (wrong != 0) {
            System.exit(1);
        }
    }
}
