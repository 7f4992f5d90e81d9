import java.util.Objects;

/** Counts the answers that are not as due, and ends a test's main method. */
final class Check {
    /** A call whose answer, or whose exception, is looked at. */
    interface Call {
        Object answer();
    }

    static final String ILLEGAL_ARGUMENT = "throws java.lang.IllegalArgumentException";
    static final String ILLEGAL_STATE = "throws java.lang.IllegalStateException";
    static final String OUT_OF_BOUNDS = "throws java.lang.IndexOutOfBoundsException";
    static final String NO_SUCH_ELEMENT = "throws java.util.NoSuchElementException";

    private static int wrong = 0;
    private static int looked = 0;

    private Check() {
    }

    /** The answer of a call, or the name of the exception that it throws. */
    static Object answerOf(Call call) {
        try {
            return call.answer();
        } catch (RuntimeException e) {
            return "throws " + e.getClass().getName();
        }
    }

    static void due(String what, Object due, Call call) {
        Object got = answerOf(call);
        looked++;
        if (!Objects.equals(got, due)) {
            wrong++;
            System.out.println(what + " answered " + got + ", due is " + due);
        }
    }

    static void illegalArgument(String what, Call call) {
        due(what, ILLEGAL_ARGUMENT, call);
    }

    static void illegalState(String what, Call call) {
        due(what, ILLEGAL_STATE, call);
    }

    static void outOfBounds(String what, Call call) {
        due(what, OUT_OF_BOUNDS, call);
    }

    static void noSuchElement(String what, Call call) {
        due(what, NO_SUCH_ELEMENT, call);
    }

    static int wrong() {
        return wrong;
    }

    /** What the worker does from the moment 0 on, a sign a moment: a letter a job, - idle, * changes. */
    static String story(Slicehouse house, int moments) {
        StringBuilder story = new StringBuilder();
        for (int moment = 0; moment < moments; moment++) {
            int doing = house.running(moment);
            story.append(doing == Slicehouse.IDLE ? '-' : doing == Slicehouse.CHANGES ? '*' : (char) ('a' + doing));
        }
        return story.toString();
    }

    /** Runs by a rule and looks at the whole run: its length, and each moment of it. */
    static void run(String what, Slicehouse house, int rule, String due) {
        due(what + ", run(" + rule + ")", due.length(), () -> house.run(rule));
        due(what + ", what running() tells by rule " + rule, due, () -> story(house, due.length()));
        due(what + ", running() behind the end", Slicehouse.IDLE, () -> house.running(due.length()));
    }

    static void end(String test) {
        System.out.println(test + ": " + looked + " answers, " + wrong + " not as due");
        if (wrong != 0) {
            System.exit(1);
        }
    }
}
