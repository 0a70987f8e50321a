import java.util.Objects;

/** What the tests of the project share: answers that are due, and the exceptions that are due. */
final class Due {
    /** A call that may throw. */
    interface Call {
        Object answer();
    }

    private static int wrong = 0;
    private static int asked = 0;
    private static String promise = "";

    private Due() {
    }

    /** Names the promise that the next answers belong to. */
    static void promise(String name) {
        promise = name;
    }

    /** How many answers were asked for so far. */
    static int asked() {
        return asked;
    }

    static void is(Object want, Object got) {
        asked++;
        if (!Objects.equals(want, got)) {
            wrong++;
            StackTraceElement[] trace = new Throwable().getStackTrace();
            int line = 0;
            for (StackTraceElement element : trace) {
                if (!element.getClassName().equals("Due")) {
                    line = element.getLineNumber();
                    break;
                }
            }
            System.out.println(promise + ", line " + line + ": answered " + got + ", due is " + want);
        }
    }

    /** The exception's class is compared exactly: what the machine throws is often of a subclass. */
    static void fails(Class<? extends RuntimeException> want, Call call) {
        is(want.getSimpleName(), outcome(call));
    }

    /** A call is denied; no method denies with a cause, but for execute. */
    static void denied(StoneChurn x, int number, int detail, Call call) {
        fails(UnsupportedOperationException.class, call);
        is(number, outcome(x::denial));
        is(detail, outcome(x::denialDetail));
        is("NoSuchElementException", outcome(x::denialCause));
    }

    /** The execution of a text is denied, since one of its commands failed. */
    static void failed(StoneChurn x, int command, int cause, String text) {
        fails(UnsupportedOperationException.class, () -> execute(x, text));
        is(7, outcome(x::denial));
        is(command, outcome(x::denialDetail));
        is(cause, outcome(x::denialCause));
    }

    /** The answer of a call, or the simple name of the class of its exception. */
    static Object outcome(Call call) {
        try {
            return call.answer();
        } catch (RuntimeException e) {
            return e.getClass().getSimpleName();
        }
    }

    /** Feeds a text and executes it. */
    static int execute(StoneChurn x, String text) {
        feed(x, text);
        return x.execute();
    }

    static void feed(StoneChurn x, String text) {
        for (int i = 0; i < text.length(); i++) {
            x.feed(text.charAt(i));
        }
    }

    /** The output line, read character by character. */
    static String line(StoneChurn x, int length) {
        StringBuilder line = new StringBuilder();
        for (int i = 0; i < length; i++) {
            line.append(x.lineCharacter(i));
        }
        return line.toString();
    }

    /** Prints how many answers were asked for, and ends with exit code 1 if one was wrong. */
    static void end(String test) {
        System.out.println(test + ": " + asked + " answers, " + wrong + " wrong");
        if (wrong != 0) {
            System.exit(1);
        }
    }
}
