/** The boundary cases of the promises 25 to 27, sentence by sentence. */
public final class ForecastEdgesTest {
    private static final int MIN = Integer.MIN_VALUE;
    private static final int MAX = Integer.MAX_VALUE;
    private static final Check check = new Check();
    private static final Twins busy = new Twins(check, Scenes::busy);
    private static final Twins full = new Twins(check, () -> Scenes.full("zz"));

    public static void main(String[] args) {
        forecastNumbers();
        forecastInTheNext2000Minutes();
        forecastOfEndedMessages();
        forecastBehindAnother();
        forecastAfterForecast();
        forecastIfNothingIsChanged();
        effectRanges();
        effectErrorsInOrder();
        effectOfOthersNotUnderWay();
        effectIfOneForecastIsNone();
        effectOfNoChange();
        effectFarApart();
        leastNumbers();
        leastEnds();
        leastWithoutAnythingElse();
        askingChangesNothing();
        check.end();
    }

    private static OpticalTelegraph withMessages(int count) {
        OpticalTelegraph x = new OpticalTelegraph();
        x.type('a');
        for (int i = 0; i < count; i++) {
            x.send(3, 2, 0);
        }
        return x;
    }

    private static void forecastNumbers() {
        check.part("promise 25: message: its number; NO_SUCH_MESSAGE");
        for (int bad : new int[] {-1, 0, 10, MIN, MAX}) {
            check.due("forecast(" + bad + ") without messages", new OpticalTelegraph().forecast(bad), -2);
        }
        for (int count = 1; count <= 10; count += 3) {
            int messages = count;
            check.range("forecast", 0, count - 1, 0, -2, m -> Math.min(0, withMessages(messages).forecast(m)));
        }
        for (int m = 0; m < 10; m++) {
            check.due("forecast(" + m + ")", withMessages(10).forecast(m), 6 * (m + 1));
        }
    }

    /** Two signs need six minutes after the fog. */
    private static void forecastInTheNext2000Minutes() {
        check.part("promise 25: NONE if under way and would not arrive in the next 2000 minutes");
        for (int now : new int[] {0, 1, 300, 5000}) {
            OpticalTelegraph x = new OpticalTelegraph();
            Check.runTo(x, now);
            x.addFog(2, 0, now + 1993);
            x.type('a');
            x.send(3, 2, 0);
            check.due("forecast(0) of the last minute", x.forecast(0), now + 2000);
            x.addFog(2, now + 1994, now + 1994);
            check.due("forecast(0) of a minute too late", x.forecast(0), -6);
            x.run(1);
            check.due("forecast(0) a minute later", x.forecast(0), now + 2001);
            Check.runTo(x, now + 2001);
            check.due("message(0, 6)", x.message(0, 6), now + 2001);
            check.due("forecast(0) of what has arrived", x.forecast(0), now + 2001);
        }
        // A day with one light minute of 334 gives six of them in 1671 minutes, one of 400 in 2001.
        OpticalTelegraph x = withMessages(1);
        x.setDay(334, 1);
        check.due("forecast(0), one minute in 334", x.forecast(0), 1671);
        x.setDay(399, 1);
        check.due("forecast(0), one minute in 399", x.forecast(0), 1996);
        x.setDay(400, 1);
        check.due("forecast(0), one minute in 400", x.forecast(0), -6);
    }

    private static void forecastOfEndedMessages() {
        check.part("promise 25: NONE if it is cancelled");
        OpticalTelegraph x = withMessages(2);
        x.cancel(0);
        check.due("forecast(0) of a cancelled message", x.forecast(0), -6);
        check.due("forecast(1) of the other", x.forecast(1), 6);
        check.part("promise 25: Returns its arrival time");
        x.run(5);
        check.due("forecast(1) before the last minute", x.forecast(1), 6);
        x.run(1);
        check.due("forecast(1) after it", x.forecast(1), 6);
        for (int i = 0; i < 10; i++) {
            x.run(300);
        }
        check.due("forecast(1) of what arrived more than 2000 minutes ago", x.forecast(1), 6);
    }

    private static void forecastBehindAnother() {
        check.part("promise 25: when a message will arrive (ten messages of thirty signs)");
        OpticalTelegraph x = new OpticalTelegraph();
        x.reset(8);
        Check.write(x, "a".repeat(29));
        for (int m = 0; m < 10; m++) {
            x.send(0, 7, 0);
        }
        // Alone, a message takes 195 minutes; the next one follows 180 minutes later.
        for (int m = 0; m < 10; m++) {
            int due = 195 + 180 * m;
            check.due("forecast(" + m + ")", x.forecast(m), due);
        }
    }

    private static void forecastAfterForecast() {
        check.part("promise 25: when a message will arrive, as things are now and not as they were at an earlier forecast");
        OpticalTelegraph x = inFog(0);
        check.due("forecast(1) behind a message in the fog", x.forecast(1), -6);
        x.cancel(0);
        check.due("forecast(1) without it", x.forecast(1), 6);
        OpticalTelegraph y = inFog(0);
        check.due("forecast(1) behind a message in the fog", y.forecast(1), -6);
        y.setPriority(1, 2);
        check.due("forecast(1) before that message", y.forecast(1), 6);
        OpticalTelegraph z = inFog(2);
        check.due("forecast(1)", z.forecast(1), 6);
        z.addFog(1, 0, 9);
        check.due("forecast(1) after a new fog", z.forecast(1), 16);
        z.addFault(1, 1, 1);
        check.due("forecast(1) with a new fault", z.forecast(1), 20);
        z.setDay(18, 15);
        check.due("forecast(1) with a night", z.forecast(1), 23);
        z.reset(3);
        check.due("forecast(1) after a reset", z.forecast(1), -2);
        z.send(0, 2, 0);
        check.due("forecast(0) after a reset", z.forecast(0), 12);
    }

    private static void forecastIfNothingIsChanged() {
        check.part("promise 25: if nothing is changed; nothing changes by this");
        OpticalTelegraph x = Scenes.busy();
        int first = x.forecast(1);
        int second = x.forecast(2);
        for (int i = 0; i < 100; i++) {
            check.due("forecast(1) at " + x.value(0), x.forecast(1), first);
            check.due("forecast(2) at " + x.value(0), x.forecast(2), second);
            x.run(1);
        }
        check.due("message(1, 6)", x.message(1, 6), first);
        check.due("message(2, 6)", x.message(2, 6), second);
        busy.stay("forecast(1)", y -> y.forecast(1), first);
        busy.stay("forecast(2)", y -> y.forecast(2), second);
        busy.stay("forecast(0)", y -> y.forecast(0), 10);
        busy.stay("forecast(3)", y -> y.forecast(3), -6);
        busy.stay("forecast(4)", y -> y.forecast(4), -2);
        int last = Scenes.full("zz").forecast(9);
        full.stay("forecast(9)", y -> y.forecast(9), last);
    }

    private static void effectRanges() {
        check.part("promise 26: message, other: NO_SUCH_MESSAGE");
        check.range("effect of a message", 0, 9, 10000, -2, m -> withMessages(10).effect(m, 0, 0));
        check.range("effect of another", 0, 9, 10000, -2, other -> withMessages(10).effect(0, other, 0));
        check.due("effect(0, 0, 0) without messages", new OpticalTelegraph().effect(0, 0, 0), -2);
        check.part("promise 26: priority: 0 to 2");
        check.range("effect of a priority", 0, 2, 10000, -3, priority -> withMessages(1).effect(0, 0, priority));
    }

    private static void effectErrorsInOrder() {
        check.part("promise 26: NO_SUCH_MESSAGE; BAD_VALUE; NOT_POSSIBLE; NONE");
        OpticalTelegraph x = Scenes.busy();
        check.due("no message, bad priority", x.effect(4, 1, 3), -2);
        check.due("no other, bad priority", x.effect(1, 4, -1), -2);
        check.due("no message, other has arrived", x.effect(-1, 0, 0), -2);
        check.due("no message, other is cancelled", x.effect(4, 3, 0), -2);
        check.due("message cancelled, no other", x.effect(3, -1, 0), -2);
        check.due("neither", x.effect(4, 4, 0), -2);
        check.due("bad priority, other has arrived", x.effect(1, 0, 3), -3);
        check.due("bad priority, other is cancelled", x.effect(1, 3, -1), -3);
        check.due("bad priority, message cancelled", x.effect(3, 1, 3), -3);
        check.due("other has arrived, message cancelled", x.effect(3, 0, 0), -4);
        check.due("other is cancelled, message too", x.effect(3, 3, 0), -4);
        check.due("message cancelled", x.effect(3, 1, 0), -6);
    }

    private static void effectOfOthersNotUnderWay() {
        check.part("promise 26: NOT_POSSIBLE if other is not under way");
        OpticalTelegraph x = withMessages(2);
        x.run(5);
        check.due("effect(1, 0, 2) before the last minute", x.effect(1, 0, 2), 10000);
        x.run(1);
        check.due("effect(1, 0, 2) after it", x.effect(1, 0, 2), -4);
        check.due("effect(1, 0, 0), the priority that it has", x.effect(1, 0, 0), -4);
        check.due("effect(0, 1, 2), message has arrived", x.effect(0, 1, 2), 10000);
        x.cancel(1);
        check.due("effect(0, 1, 2), other is cancelled", x.effect(0, 1, 2), -4);
    }

    /** Tower 1 is for message 0 in the fog unless message 1 precedes it. */
    private static OpticalTelegraph inFog(int priority) {
        OpticalTelegraph x = new OpticalTelegraph();
        x.addFog(0, 0, 5000);
        x.type('a');
        x.send(0, 1, 1);
        x.send(2, 1, priority);
        return x;
    }

    private static void effectIfOneForecastIsNone() {
        check.part("promise 26: NONE if one of the forecasts is NONE");
        check.due("as it is, NONE", inFog(0).effect(1, 1, 2), -6);
        check.due("as it would be, NONE", inFog(2).effect(1, 1, 0), -6);
        check.due("both NONE", inFog(0).effect(1, 1, 1), -6);
        check.due("neither NONE", inFog(2).effect(1, 0, 1), 10000);
        check.due("as it would be, NONE, by the other", inFog(2).effect(1, 0, 2), -6);
        check.due("as it is, NONE, but not by the other", inFog(1).effect(1, 0, 0), -6);
    }

    private static void effectOfNoChange() {
        check.part("promise 26: the difference of both forecasts, plus 10000 (no difference)");
        OpticalTelegraph x = withMessages(3);
        for (int m = 0; m < 3; m++) {
            for (int other = 0; other < 3; other++) {
                check.due("effect(" + m + ", " + other + ", 0)", x.effect(m, other, 0), 10000);
            }
        }
        check.part("promise 26: how much later (or earlier, if it is negative); perhaps the same message");
        check.due("effect(2, 2, 1)", x.effect(2, 2, 1), 9988);
        check.due("effect(0, 2, 1)", x.effect(0, 2, 1), 10006);
        check.due("effect(1, 2, 2)", x.effect(1, 2, 2), 10006);
        check.due("effect(0, 0, 2)", x.effect(0, 0, 2), 10000);
        x.setPriority(2, 2);
        check.due("effect(2, 2, 0)", x.effect(2, 2, 0), 10012);
        check.due("effect(0, 2, 0)", x.effect(0, 2, 0), 9994);
    }

    /** Message 0 either comes through before the fog or waits until it has gone. */
    private static OpticalTelegraph beforeOrAfterFog(int priority, int last) {
        OpticalTelegraph x = new OpticalTelegraph();
        x.addFog(0, 6, last);
        x.type('a');
        x.send(0, 1, priority);
        x.send(2, 1, 1);
        return x;
    }

    private static void effectFarApart() {
        check.part("promise 26: Returns the difference, from -2000 to 2000, plus 10000");
        check.due("forecast before the fog", beforeOrAfterFog(2, 1993).forecast(0), 6);
        check.due("forecast after the fog", beforeOrAfterFog(0, 1993).forecast(0), 2000);
        check.due("much earlier", beforeOrAfterFog(0, 1993).effect(0, 0, 2), 8006);
        check.due("much later", beforeOrAfterFog(2, 1993).effect(0, 0, 0), 11994);
        check.due("too late", beforeOrAfterFog(2, 1994).effect(0, 0, 0), -6);
        check.due("too late as it is", beforeOrAfterFog(0, 1994).effect(0, 0, 2), -6);
    }

    private static void leastNumbers() {
        check.part("promise 27: message: its number; NO_SUCH_MESSAGE");
        check.due("leastMinutes(0) without messages", new OpticalTelegraph().leastMinutes(0), -2);
        check.range("leastMinutes", 0, 0, 6, -2, m -> withMessages(1).leastMinutes(m));
        check.range("leastMinutes", 0, 9, 6, -2, m -> withMessages(10).leastMinutes(m));
    }

    private static void leastEnds() {
        check.part("promise 27: Returns the number of minutes (the shortest and the longest message and way)");
        int[][] due = {{0, 1, 2, 6}, {7, 6, 2, 6}, {0, 2, 2, 12}, {0, 7, 2, 27}, {7, 0, 2, 27}, {0, 1, 30, 90}, {6, 7, 30, 90}, {5, 7, 30, 180},
            {2, 0, 30, 180}, {0, 7, 30, 195}, {7, 0, 30, 195}};
        for (int[] d : due) {
            OpticalTelegraph x = new OpticalTelegraph();
            x.reset(8);
            Check.send(x, "a".repeat(d[2] - 1), d[0], d[1], 0);
            check.due("leastMinutes(0) from " + d[0] + " to " + d[1] + " of " + d[2] + " signs", x.leastMinutes(0), d[3]);
            check.due("run to the last minute", x.run(d[3] - 1), 1);
            check.due("run(1)", x.run(1), 0);
        }
    }

    private static void leastWithoutAnythingElse() {
        check.part("promise 27: on a line without other messages, fogs, nights and faults");
        OpticalTelegraph x = Scenes.full("");
        int[] due = new int[10];
        for (int m = 0; m < 10; m++) {
            int links = 7 - m % 4 - m % 3;
            due[m] = 3 * links + 12;
            check.due("leastMinutes(" + m + ")", x.leastMinutes(m), due[m]);
        }
        x.setDay(10000, 1);
        x.cancel(0);
        x.setPriority(1, 0);
        x.run(300);
        for (int m = 0; m < 10; m++) {
            check.due("leastMinutes(" + m + ") later", x.leastMinutes(m), due[m]);
        }
        x.setDay(1000, 1000);
        for (int i = 0; i < 4; i++) {
            x.run(300);
        }
        check.due("value(3)", x.value(3), 0);
        for (int m = 0; m < 10; m++) {
            check.due("leastMinutes(" + m + ") after all have ended", x.leastMinutes(m), due[m]);
        }
    }

    private static void askingChangesNothing() {
        check.part("promises 26 and 27: asking changes nothing");
        busy.stay("effect(4, 1, 0)", x -> x.effect(4, 1, 0), -2);
        busy.stay("effect(1, -1, 0)", x -> x.effect(1, -1, 0), -2);
        busy.stay("effect(1, 2, 3)", x -> x.effect(1, 2, 3), -3);
        busy.stay("effect(1, 2, -1)", x -> x.effect(1, 2, -1), -3);
        busy.stay("effect(1, 0, 0)", x -> x.effect(1, 0, 0), -4);
        busy.stay("effect(3, 1, 0)", x -> x.effect(3, 1, 0), -6);
        busy.stay("effect(1, 2, 0)", x -> x.effect(1, 2, 0), 10000);
        int other = Scenes.busy().effect(1, 2, 2);
        busy.stay("effect(1, 2, 2)", x -> x.effect(1, 2, 2), other);
        int some = Scenes.full("zz").effect(5, 7, 2);
        full.stay("effect(5, 7, 2)", x -> x.effect(5, 7, 2), some);
        busy.stay("leastMinutes(4)", x -> x.leastMinutes(4), -2);
        busy.stay("leastMinutes(-1)", x -> x.leastMinutes(-1), -2);
        busy.stay("leastMinutes(1)", x -> x.leastMinutes(1), 36);
    }
}
