import java.io.ByteArrayOutputStream;
import java.io.PrintStream;

/** What the tests share: calls told as what they answer or throw, and a count of those that are wrong. */
final class Checks {
    private final String test;
    private int checked;
    private int wrong;

    Checks(String test) {
        this.test = test;
    }

    interface Answering {
        Object call();
    }

    interface Doing {
        void call();
    }

    /** The answer of a call, or the name of the very class that it throws. */
    static String told(Answering call) {
        try {
            return String.valueOf(call.call());
        } catch (RuntimeException e) {
            return e.getClass().getSimpleName();
        }
    }

    static String done(Doing call) {
        return told(() -> {
            call.call();
            return "done";
        });
    }

    /** What a call prints, its lines ended alike on every machine. */
    static String printed(Doing call) {
        PrintStream usual = System.out;
        ByteArrayOutputStream bytes = new ByteArrayOutputStream();
        System.setOut(new PrintStream(bytes, true));
        try {
            call.call();
        } finally {
            System.setOut(usual);
        }
        return bytes.toString().replace(System.lineSeparator(), "\n");
    }

    void due(String what, Object got, Object want) {
        checked++;
        if (!String.valueOf(want).equals(String.valueOf(got))) {
            wrong++;
            if (wrong <= 40) {
                System.out.println(test + ": " + what + " answered " + got + ", due is " + want);
            }
        }
    }

    void end() {
        System.out.println(test + ": " + checked + " checked, " + wrong + " wrong");
        if (wrong > 0 || checked == 0) {
            System.exit(1);
        }
    }
}
