/** Promises 21 to 24: run, value, shown, task, and with them the work of a minute. */
public final class TimeTest {
    private static final int MIN = Integer.MIN_VALUE;
    private static final int MAX = Integer.MAX_VALUE;
    private static final Check check = new Check();

    public static void main(String[] args) {
        run();
        runInPartsOrAtOnce();
        value();
        shown();
        shownOfErrors();
        shownOfNothing();
        task();
        taskByPrecedence();
        taskOfTwoLinks();
        check.end();
    }

    private static void run() {
        check.part("promise 21");
        OpticalTelegraph x = new OpticalTelegraph();
        for (int bad : new int[] {0, -1, 301, MIN, MAX}) {
            check.due("run(" + bad + ")", x.run(bad), -3);
            check.due("value(0)", x.value(0), 0);
        }
        check.due("run(1)", x.run(1), 0);
        check.due("run(300)", x.run(300), 0);
        check.due("value(0)", x.value(0), 301);
        Check.send(x, "a", 0, 1, 0);
        Check.send(x, "a", 3, 2, 0);
        Check.send(x, "ab", 1, 2, 0);
        check.due("run(5)", x.run(5), 3);
        // 0 precedes 2 at tower 1, 2 precedes 1 at tower 2.
        check.due("run(1)", x.run(1), 2);
        check.due("run(8)", x.run(8), 2);
        check.due("run(1)", x.run(1), 1);
        check.due("run(5)", x.run(5), 1);
        check.due("run(1)", x.run(1), 0);
        check.due("message(0, 6)", x.message(0, 6), 307);
        check.due("message(2, 6)", x.message(2, 6), 316);
        check.due("message(1, 6)", x.message(1, 6), 322);
    }

    private static void runInPartsOrAtOnce() {
        check.part("promise 21");
        OpticalTelegraph x = busy();
        OpticalTelegraph y = busy();
        x.run(90);
        for (int i = 0; i < 90; i++) {
            y.run(1);
        }
        for (int m = 0; m < 4; m++) {
            for (int what = 0; what < 8; what++) {
                check.due("message(" + m + ", " + what + ")", y.message(m, what), x.message(m, what));
            }
            for (int t = 0; t < 6; t++) {
                check.due("copied(" + m + ", " + t + ")", y.copied(m, t), x.copied(m, t));
            }
        }
    }

    private static OpticalTelegraph busy() {
        OpticalTelegraph x = new OpticalTelegraph();
        x.reset(6);
        x.addFog(2, 20, 40);
        x.addFault(3, 2, 9);
        Check.send(x, "abc", 0, 5, 0);
        Check.send(x, "de", 5, 1, 1);
        Check.send(x, "fg", 4, 2, 2);
        Check.send(x, "h", 1, 3, 1);
        return x;
    }

    private static void value() {
        check.part("promise 22");
        OpticalTelegraph x = new OpticalTelegraph();
        for (int bad : new int[] {-1, 7, MIN, MAX}) {
            check.due("value(" + bad + ")", x.value(bad), -3);
        }
        x.reset(5);
        Check.write(x, "a");
        x.addWord(30, 30);
        for (int i = 0; i < 2; i++) {
            x.send(0, 4, 0);
        }
        x.cancel(0);
        x.send(1, 0, 0);
        for (int i = 0; i < 4; i++) {
            x.addFog(3, 1000, 1000);
        }
        for (int i = 0; i < 6; i++) {
            x.addFault(3, 1000 + i, 1);
        }
        x.run(12);
        int[] due = {12, 5, 3, 2, 1, 4, 6};
        for (int what = 0; what < due.length; what++) {
            check.due("value(" + what + ")", x.value(what), due[what]);
        }
    }

    private static void checkShown(OpticalTelegraph x, int... due) {
        for (int t = 0; t < due.length; t++) {
            check.due("shown(" + t + ") at " + x.value(0), x.shown(t), due[t]);
        }
    }

    private static void shown() {
        check.part("promise 23");
        OpticalTelegraph x = new OpticalTelegraph();
        for (int bad : new int[] {-1, 4, MIN, MAX}) {
            check.due("shown(" + bad + ")", x.shown(bad), -1);
        }
        Check.send(x, "e", 3, 1, 0);
        checkShown(x, 0, 0, 0, 0);
        int[][] due = {{0, 0, 0, 5}, {0, 0, 5, 5}, {0, 0, 0, 0}, {0, 0, 5, 0}, {0, 5, 5, 0}, {0, 0, 0, 0}, {0, 0, 0, 27}, {0, 0, 27, 27},
            {0, 0, 0, 0}, {0, 0, 27, 0}, {0, 27, 27, 0}, {0, 0, 0, 0}, {0, 0, 0, 0}};
        for (int[] shown : due) {
            x.run(1);
            checkShown(x, shown);
        }
        check.due("message(0, 6)", x.message(0, 6), 12);
    }

    private static void shownOfErrors() {
        check.part("promise 23");
        OpticalTelegraph x = new OpticalTelegraph();
        x.addFault(0, 1, 99);
        x.addFault(0, 4, 1);
        Check.send(x, "a", 0, 1, 0);
        int[][] due = {{1, 0}, {1, 0}, {0, 0}, {99, 0}, {1, 0}, {1, 1}, {0, 0}, {99, 0}, {1, 0}, {1, 1}, {0, 0}, {27, 0}};
        for (int i = 0; i < due.length; i++) {
            x.run(1);
            checkShown(x, due[i][0], due[i][1], 0, 0);
        }
        check.due("linkCount(0, 1)", x.linkCount(0, 1), 2);
    }

    private static void shownOfNothing() {
        check.part("promise 23");
        OpticalTelegraph x = new OpticalTelegraph();
        x.addFog(0, 1, 1);
        x.setDay(4, 3);
        Check.send(x, "c", 0, 1, 0);
        x.run(1);
        checkShown(x, 3, 0);
        // Sending, cancelling and forecasts do not change what was shown in the latest minute.
        Check.send(x, "d", 2, 1, 2);
        x.forecast(0);
        checkShown(x, 3, 0, 0);
        x.run(1);
        checkShown(x, 0, 0, 4);
        x.run(1);
        checkShown(x, 0, 4, 4);
        x.cancel(1);
        checkShown(x, 0, 4, 4);
        x.run(1);
        checkShown(x, 0, 0, 0);
        x.run(1);
        checkShown(x, 3, 3, 0);
        check.due("linkCount(0, 0)", x.linkCount(0, 0), 1);
        x.reset(4);
        checkShown(x, 0, 0, 0, 0);
    }

    private static void checkTasks(OpticalTelegraph x, int[]... due) {
        for (int t = 0; t < due.length; t++) {
            check.due("task(" + t + ", 0) at " + x.value(0), x.task(t, 0), due[t][0]);
            check.due("task(" + t + ", 1) at " + x.value(0), x.task(t, 1), due[t][1]);
        }
    }

    private static int[] does(int message, int link) {
        return new int[] {message, link};
    }

    private static int[] rests() {
        return new int[] {-6, -6};
    }

    private static void task() {
        check.part("promise 24");
        OpticalTelegraph x = new OpticalTelegraph();
        int[][] wrong = {{-1, 0, -1}, {4, 2, -1}, {MAX, 0, -1}, {MIN, 0, -1}, {0, -1, -3}, {0, 2, -3}, {3, MAX, -3}, {0, MIN, -3}};
        for (int[] w : wrong) {
            check.due("task(" + w[0] + ", " + w[1] + ")", x.task(w[0], w[1]), w[2]);
        }
        checkTasks(x, rests(), rests(), rests(), rests());
        Check.send(x, "a", 2, 1, 0);
        checkTasks(x, rests(), does(0, 1), does(0, 1), rests());
        // A tower takes its task in the fog, too.
        x.addFog(1, 0, 3);
        check.due("isBlind(1)", x.isBlind(1), 1);
        checkTasks(x, rests(), does(0, 1), does(0, 1), rests());
        x.run(10);
        check.due("value(3)", x.value(3), 0);
        checkTasks(x, rests(), rests(), rests(), rests());
    }

    private static void taskByPrecedence() {
        check.part("promise 24");
        OpticalTelegraph x = new OpticalTelegraph();
        Check.send(x, "a", 2, 1, 0);
        checkTasks(x, rests(), does(0, 1), does(0, 1), rests());
        Check.send(x, "b", 1, 0, 0);
        checkTasks(x, does(1, 0), does(0, 1), does(0, 1), rests());
        Check.send(x, "c", 0, 1, 0);
        checkTasks(x, does(2, 0), does(2, 0), does(0, 1), rests());
        Check.send(x, "d", 1, 2, 0);
        checkTasks(x, does(2, 0), does(2, 0), does(3, 1), rests());
        Check.send(x, "e", 3, 2, 1);
        checkTasks(x, does(2, 0), does(2, 0), does(4, 2), does(4, 2));
        x.setPriority(0, 1);
        checkTasks(x, does(2, 0), does(0, 1), does(0, 1), does(4, 2));
        x.setPriority(1, 2);
        checkTasks(x, does(1, 0), does(1, 0), does(0, 1), does(4, 2));
        x.cancel(0);
        checkTasks(x, does(1, 0), does(1, 0), does(4, 2), does(4, 2));
        x.setPriority(3, 2);
        checkTasks(x, does(1, 0), does(3, 1), does(3, 1), does(4, 2));
        // Where the two towers of a link differ, nothing is done.
        x.run(1);
        check.due("step(1, 0)", x.step(1, 0), 0);
        check.due("step(3, 1)", x.step(3, 1), 1);
        check.due("step(4, 2)", x.step(4, 2), 0);
    }

    private static void taskOfTwoLinks() {
        check.part("promise 24");
        OpticalTelegraph x = new OpticalTelegraph();
        Check.send(x, "ab", 0, 3, 0);
        checkTasks(x, does(0, 0), does(0, 0), rests(), rests());
        x.run(3);
        // Tower 1 could go on with link 0, but passes on what it has got.
        checkTasks(x, does(0, 0), does(0, 1), does(0, 1), rests());
        x.run(3);
        check.due("step(0, 0)", x.step(0, 0), 0);
        checkTasks(x, does(0, 0), does(0, 0), does(0, 2), does(0, 2));
        x.run(3);
        checkTasks(x, does(0, 0), does(0, 1), does(0, 1), rests());
        x.reset(4);
        Check.send(x, "ab", 3, 0, 0);
        x.run(3);
        checkTasks(x, rests(), does(0, 1), does(0, 1), does(0, 2));
        x.run(3);
        checkTasks(x, does(0, 0), does(0, 0), does(0, 2), does(0, 2));
    }
}
