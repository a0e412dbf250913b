/** Promises 1 to 7: the new object, reset, the day, fogs, faults and what is counted on a link. */
public final class LineTest {
    private static final int MIN = Integer.MIN_VALUE;
    private static final int MAX = Integer.MAX_VALUE;
    private static final Check check = new Check();

    public static void main(String[] args) {
        newObject();
        reset();
        resetLeavesNothing();
        setDay();
        addFog();
        addFault();
        isBlind();
        linkCountOfWork();
        linkCountOfBlindMinutes();
        check.end();
    }

    private static void newObject() {
        check.part("promise 1");
        OpticalTelegraph x = new OpticalTelegraph();
        int[] values = {0, 4, 0, 0, 0, 0, 0};
        for (int what = 0; what < values.length; what++) {
            check.due("value(" + what + ")", x.value(what), values[what]);
        }
        check.due("setDay(1000, 1000)", x.setDay(1000, 1000), 0);
        check.due("clearText()", x.clearText(), 0);
        check.due("message(0, 0)", x.message(0, 0), -2);
        for (int t = 0; t < 4; t++) {
            check.due("shown(" + t + ")", x.shown(t), 0);
            check.due("task(" + t + ", 0)", x.task(t, 0), -6);
        }
        check.due("shown(4)", x.shown(4), -1);
        for (int l = 0; l < 3; l++) {
            check.due("isBlind(" + l + ")", x.isBlind(l), 0);
            for (int what = 0; what < 4; what++) {
                check.due("linkCount(" + l + ", " + what + ")", x.linkCount(l, what), 0);
            }
        }
        check.due("isBlind(3)", x.isBlind(3), -1);
    }

    private static void reset() {
        check.part("promise 2");
        OpticalTelegraph x = new OpticalTelegraph();
        for (int bad : new int[] {2, 9, 0, -1, MIN, MAX}) {
            check.due("reset(" + bad + ")", x.reset(bad), -3);
            check.due("value(1)", x.value(1), 4);
        }
        int previous = 4;
        for (int towers : new int[] {3, 8, 5, 5, 7, 6, 4}) {
            check.due("reset(" + towers + ")", x.reset(towers), previous);
            check.due("value(1)", x.value(1), towers);
            check.due("shown", x.shown(towers - 1), 0);
            check.due("shown", x.shown(towers), -1);
            check.due("isBlind", x.isBlind(towers - 2), 0);
            check.due("isBlind", x.isBlind(towers - 1), -1);
            previous = towers;
        }
    }

    private static void resetLeavesNothing() {
        check.part("promise 2");
        OpticalTelegraph x = new OpticalTelegraph();
        x.setDay(50, 40);
        Check.write(x, "abc");
        x.addWord(30, 30);
        x.addFog(2, 0, 100);
        x.addFault(0, 1, 3);
        x.send(0, 3, 1);
        x.run(2);
        check.due("shown(1)", x.shown(1), 31);
        check.due("reset(9)", x.reset(9), -3);
        check.due("value(0)", x.value(0), 2);
        check.due("value(2)", x.value(2), 1);
        check.due("shown(1)", x.shown(1), 31);
        check.due("reset(4)", x.reset(4), 4);
        int[] values = {0, 4, 0, 0, 1, 0, 0};
        for (int what = 0; what < values.length; what++) {
            check.due("value(" + what + ")", x.value(what), values[what]);
        }
        check.due("shown(0)", x.shown(0), 0);
        check.due("shown(1)", x.shown(1), 0);
        check.due("linkCount(0, 0)", x.linkCount(0, 0), 0);
        check.due("linkCount(2, 3)", x.linkCount(2, 3), 0);
        check.due("isBlind(2)", x.isBlind(2), 0);
        check.due("task(0, 0)", x.task(0, 0), -6);
        check.due("step(0, 0)", x.step(0, 0), -2);
        check.due("setDay(50, 40)", x.setDay(50, 40), 0);
        check.due("signCount()", x.signCount(), 3);
        check.due("send(0, 1, 0)", x.send(0, 1, 0), 0);
        check.due("step(0, 0)", x.step(0, 0), 0);
        check.due("message(0, 7)", x.message(0, 7), 0);
        check.due("forecast(0)", x.forecast(0), 9);
        resetCounts(x);
    }

    private static void resetCounts(OpticalTelegraph x) {
        x.addFault(0, 1, 1);
        x.run(20);
        int[] before = {8, 1, 3, 0};
        for (int what = 0; what < 4; what++) {
            check.due("linkCount(0, " + what + ")", x.linkCount(0, what), before[what]);
        }
        check.due("message(0, 7)", x.message(0, 7), 1);
        x.reset(4);
        for (int what = 0; what < 4; what++) {
            check.due("linkCount(0, " + what + ")", x.linkCount(0, what), 0);
        }
        x.send(0, 1, 0);
        check.due("message(0, 7)", x.message(0, 7), 0);
    }

    private static void setDay() {
        check.part("promise 3");
        OpticalTelegraph x = new OpticalTelegraph();
        int[][] bad = {{0, 0}, {0, 1}, {-1, 1}, {10001, 1}, {10, 0}, {10, 11}, {10, -1}, {MIN, MIN}, {MAX, 1}, {1000, MAX}};
        for (int[] day : bad) {
            check.due("setDay(" + day[0] + ", " + day[1] + ")", x.setDay(day[0], day[1]), -3);
        }
        check.due("setDay(1000, 1000)", x.setDay(1000, 1000), 0);
        check.due("setDay(1000, 999)", x.setDay(1000, 999), 1);
        check.due("setDay(1000, 999)", x.setDay(1000, 999), 0);
        check.due("setDay(999, 999)", x.setDay(999, 999), 1);
        check.due("setDay(1, 1)", x.setDay(1, 1), 1);
        check.due("setDay(10000, 1)", x.setDay(10000, 1), 1);
        check.due("setDay(10000, 10000)", x.setDay(10000, 10000), 1);
        check.due("setDay(3, 2)", x.setDay(3, 2), 1);
        for (int t = 0; t < 7; t++) {
            check.due("isBlind(0) at " + t, x.isBlind(0), t % 3 == 2 ? 1 : 0);
            check.due("isBlind(2) at " + t, x.isBlind(2), t % 3 == 2 ? 1 : 0);
            x.run(1);
        }
        // The day counts from minute 0, not from the minute in which it is set.
        check.due("setDay(10, 7)", x.setDay(10, 7), 1);
        check.due("isBlind(1)", x.isBlind(1), 1);
        check.due("setDay(7, 1)", x.setDay(7, 1), 1);
        check.due("isBlind(1)", x.isBlind(1), 0);
    }

    private static void addFog() {
        check.part("promise 4");
        OpticalTelegraph x = new OpticalTelegraph();
        int[][] wrong = {{3, 0, 0, -1}, {-1, 0, 0, -1}, {MIN, -1, 0, -1}, {MAX, 0, 0, -1}, {0, -1, 0, -3},
            {0, 100001, 100001, -3}, {0, 5, 4, -3}, {0, 0, 100001, -3}, {0, MIN, 0, -3}, {0, 0, MAX, -3}, {0, 3, MIN, -3}};
        for (int[] w : wrong) {
            check.due("addFog(" + w[0] + ", " + w[1] + ", " + w[2] + ")", x.addFog(w[0], w[1], w[2]), w[3]);
            check.due("value(5)", x.value(5), 0);
        }
        check.due("addFog(0, 0, 0)", x.addFog(0, 0, 0), 1);
        check.due("addFog(2, 100000, 100000)", x.addFog(2, 100000, 100000), 2);
        check.due("addFog(1, 0, 100000)", x.addFog(1, 0, 100000), 3);
        for (int i = 4; i <= 12; i++) {
            check.due("addFog(0, 0, 0)", x.addFog(0, 0, 0), i);
        }
        check.due("addFog(0, 3, 3)", x.addFog(0, 3, 3), -5);
        check.due("addFog(0, 3, 2)", x.addFog(0, 3, 2), -3);
        check.due("addFog(3, 3, 3)", x.addFog(3, 3, 3), -1);
        check.due("value(5)", x.value(5), 12);
        check.due("reset(3)", x.reset(3), 4);
        check.due("addFog(2, 0, 0)", x.addFog(2, 0, 0), -1);
        check.due("addFog(1, 0, 0)", x.addFog(1, 0, 0), 1);
    }

    private static void addFault() {
        check.part("promise 5");
        OpticalTelegraph x = new OpticalTelegraph();
        int[][] wrong = {{3, 1, 1, -1}, {-1, 0, 0, -1}, {MAX, 1, 1, -1}, {0, 0, 1, -3}, {0, 10001, 1, -3}, {0, 1, 0, -3},
            {0, 1, 100, -3}, {0, MIN, 1, -3}, {0, MAX, 1, -3}, {0, 1, MIN, -3}, {0, 1, MAX, -3}};
        for (int[] w : wrong) {
            check.due("addFault(" + w[0] + ", " + w[1] + ", " + w[2] + ")", x.addFault(w[0], w[1], w[2]), w[3]);
            check.due("value(6)", x.value(6), 0);
        }
        check.due("addFault(0, 1, 1)", x.addFault(0, 1, 1), 1);
        check.due("addFault(0, 1, 1)", x.addFault(0, 1, 1), -4);
        check.due("addFault(0, 1, 99)", x.addFault(0, 1, 99), -4);
        check.due("addFault(0, 1, 100)", x.addFault(0, 1, 100), -3);
        check.due("addFault(1, 1, 99)", x.addFault(1, 1, 99), 2);
        check.due("addFault(2, 10000, 50)", x.addFault(2, 10000, 50), 3);
        for (int i = 4; i <= 16; i++) {
            check.due("addFault(0, " + i + ", 9)", x.addFault(0, i, 9), i);
        }
        check.due("addFault(0, 4, 9)", x.addFault(0, 4, 9), -4);
        check.due("addFault(0, 17, 9)", x.addFault(0, 17, 9), -5);
        check.due("value(6)", x.value(6), 16);
        // The fault belongs to one reading of one link.
        Check.send(x, "a", 0, 1, 0);
        x.run(2);
        check.due("shown(1)", x.shown(1), 2);
        Check.send(x, "a", 2, 1, 2);
        x.run(2);
        check.due("shown(1)", x.shown(1), 0);
        x.reset(4);
        x.addFault(0, 3, 99);
        Check.send(x, "a", 0, 1, 0);
        x.run(2);
        check.due("shown(1)", x.shown(1), 1);
        x.run(3);
        check.due("shown(1)", x.shown(1), 26);
        check.due("linkCount(0, 0)", x.linkCount(0, 0), 3);
    }

    private static void isBlind() {
        check.part("promise 6");
        OpticalTelegraph x = new OpticalTelegraph();
        for (int bad : new int[] {-1, 3, MIN, MAX}) {
            check.due("isBlind(" + bad + ")", x.isBlind(bad), -1);
        }
        x.setDay(10, 8);
        x.addFog(1, 2, 4);
        x.addFog(1, 4, 5);
        x.addFog(2, 9, 10);
        for (int t = 0; t < 25; t++) {
            boolean night = t % 10 >= 8;
            check.due("isBlind(0) at " + t, x.isBlind(0), night ? 1 : 0);
            check.due("isBlind(1) at " + t, x.isBlind(1), night || t >= 2 && t <= 5 ? 1 : 0);
            check.due("isBlind(2) at " + t, x.isBlind(2), night || t == 10 ? 1 : 0);
            x.run(1);
        }
    }

    private static void linkCountOfWork() {
        check.part("promise 7");
        OpticalTelegraph x = new OpticalTelegraph();
        int[][] wrong = {{-1, 0, -1}, {3, 0, -1}, {3, 4, -1}, {0, -1, -3}, {0, 4, -3}, {0, MIN, -3}, {0, MAX, -3}, {MAX, 0, -1}};
        for (int[] w : wrong) {
            check.due("linkCount(" + w[0] + ", " + w[1] + ")", x.linkCount(w[0], w[1]), w[2]);
        }
        x.addFault(1, 2, 10);
        Check.send(x, "a", 2, 1, 0);
        int[][] due = {{0, 0, 0}, {1, 0, 0}, {2, 1, 0}, {2, 1, 0}, {2, 1, 0}, {3, 1, 0}, {4, 1, 1}, {4, 1, 1}, {5, 1, 1}, {6, 1, 2}, {6, 1, 2}};
        for (int t = 0; t < due.length; t++) {
            x.run(1);
            for (int what = 0; what < 3; what++) {
                check.due("linkCount(1, " + what + ") at " + (t + 1), x.linkCount(1, what), due[t][what]);
                check.due("linkCount(0, " + what + ") at " + (t + 1), x.linkCount(0, what), 0);
                check.due("linkCount(2, " + what + ") at " + (t + 1), x.linkCount(2, what), 0);
            }
        }
        check.due("message(0, 4)", x.message(0, 4), 1);
        check.due("message(0, 6)", x.message(0, 6), 10);
        // A wrong sign that was taken for right has been passed on, too.
        x.addFault(0, 1, 30);
        x.addFault(0, 2, 70);
        Check.send(x, "a", 0, 1, 0);
        x.run(3);
        check.due("linkCount(0, 2)", x.linkCount(0, 2), 1);
        check.due("linkCount(0, 1)", x.linkCount(0, 1), 0);
        // The counts go on from message to message.
        Check.send(x, "b", 1, 2, 2);
        x.run(10);
        check.due("linkCount(1, 0)", x.linkCount(1, 0), 10);
        check.due("linkCount(1, 2)", x.linkCount(1, 2), 4);
    }

    private static void linkCountOfBlindMinutes() {
        check.part("promise 7");
        OpticalTelegraph x = new OpticalTelegraph();
        x.setDay(10, 6);
        x.addFog(1, 4, 7);
        x.addFog(1, 5, 11);
        x.run(15);
        check.due("linkCount(0, 3)", x.linkCount(0, 3), 4);
        check.due("linkCount(1, 3)", x.linkCount(1, 3), 8);
        check.due("linkCount(2, 3)", x.linkCount(2, 3), 4);
        // What comes later does not change the minutes that have passed.
        x.addFog(2, 0, 15);
        x.setDay(10, 10);
        check.due("linkCount(2, 3)", x.linkCount(2, 3), 4);
        x.run(1);
        check.due("linkCount(2, 3)", x.linkCount(2, 3), 5);
        check.due("linkCount(0, 3)", x.linkCount(0, 3), 4);
        // A forecast counts nothing.
        x.addFog(0, 16, 30);
        Check.send(x, "a", 0, 1, 0);
        check.due("forecast(0)", x.forecast(0), 37);
        check.due("linkCount(0, 3)", x.linkCount(0, 3), 4);
        check.due("linkCount(0, 0)", x.linkCount(0, 0), 0);
    }
}
