import java.util.function.IntUnaryOperator;

/** Counts the answers that are not as due, and ends a test with exit code 1 if there was one. */
final class Check {
    private int wrong;
    private int asked;
    private String part = "";

    void part(String name) {
        part = name;
    }

    void due(String call, int got, int want) {
        asked++;
        if (got != want) {
            wrong++;
            System.out.println(part + ": " + call + " answered " + got + ", due is " + want);
        }
    }

    /**
     * The values of an argument: all of a short range, both ends of a long one, and the first that
     * are not allowed. The call is made on a new object each time.
     */
    void range(String name, int least, int most, int due, int refusal, IntUnaryOperator call) {
        int stride = most - least > 200 ? most - least : 1;
        for (int value = least; value <= most; value += stride) {
            due(name + " of " + value, call.applyAsInt(value), due);
        }
        for (int bad : new int[] {least - 1, most + 1, Integer.MIN_VALUE, Integer.MAX_VALUE}) {
            due(name + " of " + bad, call.applyAsInt(bad), refusal);
        }
    }

    void fail(String what) {
        asked++;
        wrong++;
        System.out.println(part + ": " + what);
    }

    void end() {
        System.out.println(wrong == 0 ? asked + " answers are as due" : wrong + " of " + asked + " answers are not as due");
        if (wrong != 0) {
            System.exit(1);
        }
    }

    /** Makes this the text of an object. */
    static void write(OpticalTelegraph x, String text) {
        x.clearText();
        for (int i = 0; i < text.length(); i++) {
            x.type(text.charAt(i));
        }
    }

    static int send(OpticalTelegraph x, String text, int from, int to, int priority) {
        write(x, text);
        return x.send(from, to, priority);
    }

    /** Lets time pass until the time is this one. */
    static void runTo(OpticalTelegraph x, int time) {
        for (int now = x.value(0); now < time; now += 300) {
            x.run(Math.min(300, time - now));
        }
    }

    /** The whole reading of a copy. */
    static String read(OpticalTelegraph x, int message, int tower) {
        StringBuilder all = new StringBuilder();
        for (int i = 0; i < 1000; i++) {
            int character = x.reading(message, tower, i);
            if (character < 0) {
                break;
            }
            all.append((char) character);
        }
        return all.toString();
    }

    void dueText(String call, String got, String want) {
        asked++;
        if (!got.equals(want)) {
            wrong++;
            System.out.println(part + ": " + call + " gave '" + got + "', due is '" + want + "'");
        }
    }
}
