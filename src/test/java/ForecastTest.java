/** Promises 25 to 27: forecast, effect, leastMinutes. */
public final class ForecastTest {
    private static final int MIN = Integer.MIN_VALUE;
    private static final int MAX = Integer.MAX_VALUE;
    private static final Check check = new Check();

    public static void main(String[] args) {
        forecast();
        forecastChangesNothing();
        forecastAtItsBound();
        forecastOfNewThings();
        effect();
        effectOfNothing();
        leastMinutes();
        check.end();
    }

    private static void forecast() {
        check.part("promise 25");
        OpticalTelegraph x = new OpticalTelegraph();
        for (int bad : new int[] {-1, 0, 10, MIN, MAX}) {
            check.due("forecast(" + bad + ")", x.forecast(bad), -2);
        }
        x.addFault(0, 3, 7);
        x.addFog(1, 8, 12);
        x.setDay(20, 15);
        Check.send(x, "ab", 0, 2, 0);
        Check.send(x, "c", 2, 1, 1);
        check.due("forecast(2)", x.forecast(2), -2);
        int first = x.forecast(0);
        int second = x.forecast(1);
        check.due("forecast(1)", second, 6);
        for (int i = 0; i < 100 && x.value(3) > 0; i++) {
            x.run(1);
            check.due("forecast(0) at " + x.value(0), x.forecast(0), first);
            check.due("forecast(1) at " + x.value(0), x.forecast(1), second);
        }
        check.due("message(0, 6)", x.message(0, 6), first);
        check.due("message(1, 6)", x.message(1, 6), second);
        x.run(300);
        check.due("forecast(0) long after", x.forecast(0), first);
        Check.send(x, "ab", 0, 2, 0);
        x.cancel(2);
        check.due("forecast(2)", x.forecast(2), -6);
    }

    private static void forecastChangesNothing() {
        check.part("promise 25");
        OpticalTelegraph x = new OpticalTelegraph();
        x.addFault(1, 1, 7);
        Check.send(x, "ab", 0, 3, 0);
        Check.send(x, "c", 3, 1, 0);
        x.run(5);
        int[] before = all(x);
        x.forecast(0);
        x.forecast(1);
        x.effect(0, 1, 2);
        int[] after = all(x);
        for (int i = 0; i < before.length; i++) {
            check.due("answer " + i + " after forecasts", after[i], before[i]);
        }
        check.due("setPriority(1, 0)", x.setPriority(1, 0), 0);
    }

    /** What can be seen of the line. */
    private static int[] all(OpticalTelegraph x) {
        int[] seen = new int[200];
        int count = 0;
        for (int what = 0; what < 7; what++) {
            seen[count++] = x.value(what);
        }
        for (int t = 0; t < 4; t++) {
            seen[count++] = x.shown(t);
            seen[count++] = x.task(t, 0);
            seen[count++] = x.task(t, 1);
            for (int what = 0; what < 4; what++) {
                seen[count++] = x.linkCount(t, what);
            }
            for (int m = 0; m < 2; m++) {
                seen[count++] = x.copied(m, t);
                seen[count++] = x.step(m, t);
            }
        }
        for (int what = 0; what < 8; what++) {
            seen[count++] = x.message(0, what);
            seen[count++] = x.message(1, what);
        }
        return seen;
    }

    private static void forecastAtItsBound() {
        check.part("promise 25");
        OpticalTelegraph x = new OpticalTelegraph();
        // The light begins again at minute 1994: 'a' takes 6 minutes of it.
        x.addFog(0, 0, 1993);
        x.addFog(1, 0, 1994);
        Check.send(x, "a", 0, 1, 0);
        Check.send(x, "a", 2, 1, 0);
        Check.send(x, "a", 3, 2, 0);
        check.due("forecast(0)", x.forecast(0), 2000);
        check.due("forecast(1)", x.forecast(1), -6);
        check.due("forecast(2)", x.forecast(2), -6);
        x.cancel(1);
        check.due("forecast(2)", x.forecast(2), 6);
        x.run(7);
        check.due("forecast(0)", x.forecast(0), 2000);
        // It looks ahead from now.
        x.addFog(2, 7, 2000);
        Check.send(x, "a", 2, 3, 0);
        check.due("forecast(3)", x.forecast(3), 2007);
        x.addFog(2, 2001, 2001);
        check.due("forecast(3)", x.forecast(3), -6);
        x.run(1);
        check.due("forecast(3)", x.forecast(3), 2008);
    }

    /** The first forecasts of an object: nothing of an earlier one can help them. */
    private static void forecastOfNewThings() {
        check.part("promise 25");
        OpticalTelegraph arrived = new OpticalTelegraph();
        Check.send(arrived, "a", 0, 1, 0);
        arrived.run(20);
        check.due("forecast(0) of a message that has arrived", arrived.forecast(0), 6);
        OpticalTelegraph faulty = new OpticalTelegraph();
        faulty.addFault(0, 1, 5);
        faulty.addFault(2, 1, 5);
        faulty.addFault(2, 4, 5);
        Check.send(faulty, "a", 2, 3, 0);
        check.due("forecast(0) with two errors", faulty.forecast(0), 14);
        Check.send(faulty, "a", 1, 2, 1);
        check.due("forecast(1) without errors", faulty.forecast(1), 6);
        faulty.run(14);
        check.due("forecast(0) after one error", faulty.forecast(0), 20);
        OpticalTelegraph wide = new OpticalTelegraph();
        wide.reset(8);
        Check.send(wide, "a", 7, 0, 0);
        check.due("forecast(0) over seven links", wide.forecast(0), 27);
        wide.reset(3);
        Check.send(wide, "a", 0, 2, 0);
        check.due("forecast(0) over two links", wide.forecast(0), 12);
        OpticalTelegraph crowded = new OpticalTelegraph();
        for (int i = 0; i < 10; i++) {
            Check.send(crowded, "a", 0, 1, 0);
        }
        for (int i = 9; i >= 0; i--) {
            check.due("forecast(" + i + ")", crowded.forecast(i), 6 * (i + 1));
        }
        OpticalTelegraph late = new OpticalTelegraph();
        late.run(100);
        late.setDay(110, 104);
        Check.send(late, "a", 0, 1, 0);
        check.due("forecast(0) over a night", late.forecast(0), 112);
    }

    private static void effect() {
        check.part("promise 26");
        OpticalTelegraph x = new OpticalTelegraph();
        check.due("effect(0, 0, 0)", x.effect(0, 0, 0), -2);
        Check.send(x, "a", 0, 1, 1);
        Check.send(x, "b", 2, 1, 1);
        int[][] wrong = {{-1, 0, 0, -2}, {0, -1, 0, -2}, {2, 0, 0, -2}, {0, 2, 3, -2}, {MAX, 0, 0, -2}, {0, MIN, 0, -2},
            {0, 1, 3, -3}, {0, 1, -1, -3}, {0, 0, MAX, -3}};
        for (int[] w : wrong) {
            check.due("effect(" + w[0] + ", " + w[1] + ", " + w[2] + ")", x.effect(w[0], w[1], w[2]), w[3]);
        }
        check.due("forecast(0)", x.forecast(0), 6);
        check.due("forecast(1)", x.forecast(1), 12);
        check.due("effect(0, 0, 1)", x.effect(0, 0, 1), 10000);
        check.due("effect(0, 0, 2)", x.effect(0, 0, 2), 10000);
        check.due("effect(0, 0, 0)", x.effect(0, 0, 0), 10006);
        check.due("effect(1, 0, 0)", x.effect(1, 0, 0), 9994);
        check.due("effect(0, 1, 2)", x.effect(0, 1, 2), 10006);
        check.due("effect(1, 1, 2)", x.effect(1, 1, 2), 9994);
        check.due("effect(1, 1, 0)", x.effect(1, 1, 0), 10000);
        check.due("message(1, 2)", x.message(1, 2), 1);
        check.due("forecast(1)", x.forecast(1), 12);
        x.run(6);
        check.due("effect(0, 1, 2)", x.effect(0, 1, 2), 10000);
        check.due("effect(1, 0, 2)", x.effect(1, 0, 2), -4);
        check.due("effect(1, 0, 3)", x.effect(1, 0, 3), -3);
    }

    private static void effectOfNothing() {
        check.part("promise 26");
        OpticalTelegraph x = new OpticalTelegraph();
        Check.send(x, "a", 0, 1, 1);
        Check.send(x, "b", 1, 2, 1);
        x.addFog(0, 0, 3000);
        check.due("effect(0, 0, 1)", x.effect(0, 0, 1), -6);
        // As it is, message 1 waits behind message 0 in the fog; with priority 2 it does not.
        check.due("forecast(1)", x.forecast(1), -6);
        check.due("effect(1, 1, 2)", x.effect(1, 1, 2), -6);
        x.setPriority(1, 2);
        check.due("forecast(1)", x.forecast(1), 6);
        check.due("effect(1, 1, 1)", x.effect(1, 1, 1), -6);
        check.due("effect(1, 1, 2)", x.effect(1, 1, 2), 10000);
        x.cancel(0);
        check.due("effect(0, 1, 0)", x.effect(0, 1, 0), -6);
        check.due("effect(0, 0, 0)", x.effect(0, 0, 0), -4);
    }

    private static void leastMinutes() {
        check.part("promise 27");
        OpticalTelegraph x = new OpticalTelegraph();
        for (int bad : new int[] {-1, 0, MIN, MAX}) {
            check.due("leastMinutes(" + bad + ")", x.leastMinutes(bad), -2);
        }
        // On an empty line, it is the time that the message takes.
        for (int links = 1; links <= 7; links++) {
            for (int letters = 1; letters <= 29; letters++) {
                for (int down = 0; down < 2; down++) {
                    x.reset(8);
                    Check.send(x, "a".repeat(letters), down == 0 ? 0 : 7, down == 0 ? links : 7 - links, 0);
                    int least = x.leastMinutes(0);
                    int signs = letters + 1;
                    check.due("leastMinutes(0)", least, links == 1 ? 3 * signs : 3 * links + 6 * (signs - 1));
                    x.run(300);
                    check.due("message(0, 6)", x.message(0, 6), least);
                }
            }
        }
        // Nothing that there is on the line counts, nor when the message was sent or how it ended.
        x.reset(4);
        x.run(5);
        x.setDay(10, 1);
        x.addFault(0, 1, 1);
        x.addFog(0, 0, 100);
        Check.send(x, "z", 1, 0, 2);
        Check.send(x, "abc", 0, 2, 0);
        check.due("leastMinutes(1)", x.leastMinutes(1), 24);
        x.run(100);
        x.cancel(1);
        check.due("leastMinutes(1)", x.leastMinutes(1), 24);
        check.due("leastMinutes(0)", x.leastMinutes(0), 6);
        check.due("leastMinutes(2)", x.leastMinutes(2), -2);
    }
}
