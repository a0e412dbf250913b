/** The boundary cases of the promises 1 to 7, sentence by sentence. */
public final class LineEdgesTest {
    private static final Check check = new Check();
    private static final Twins empty = new Twins(check, OpticalTelegraph::new);
    private static final Twins busy = new Twins(check, Scenes::busy);
    private static final Twins full = new Twins(check, () -> Scenes.full("zz"));

    public static void main(String[] args) {
        scenesAreAsTold();
        newLine();
        newRowsAreEmpty();
        resetTowers();
        resetEmptiesFullRows();
        resetStartsAnew();
        resetLeavesDayBookAndText();
        resetRefused();
        dayRanges();
        dayChanged();
        dayRefused();
        fogRanges();
        fogsUntilFull();
        fogErrorsInOrder();
        fogRefused();
        faultRanges();
        faultForThisReading();
        faultsUntilFull();
        faultErrorsInOrder();
        faultRefused();
        blindInTheNextMinute();
        countRanges();
        countErrorsInOrder();
        askingChangesNothing();
        check.end();
    }

    /** The tests of refused calls rest on this. */
    private static void scenesAreAsTold() {
        check.part("scenes");
        OpticalTelegraph x = Scenes.busy();
        int[] values = {12, 5, 4, 2, 2, 2, 3};
        for (int what = 0; what < 7; what++) {
            check.due("value(" + what + ") of the busy scene", x.value(what), values[what]);
        }
        int[] states = {1, 0, 0, 2};
        for (int m = 0; m < 4; m++) {
            check.due("message(" + m + ", 4) of the busy scene", x.message(m, 4), states[m]);
        }
        x = Scenes.full("zz");
        int[] fullValues = {2, 8, 10, 10, 20, 12, 16};
        for (int what = 0; what < 7; what++) {
            check.due("value(" + what + ") of the full scene", x.value(what), fullValues[what]);
        }
    }

    private static void newLine() {
        check.part("promise 1: Creates a line of 4 towers");
        check.range("shown", 0, 3, 0, -1, t -> new OpticalTelegraph().shown(t));
        check.range("isBlind", 0, 2, 0, -1, l -> new OpticalTelegraph().isBlind(l));
        check.part("promise 1: the day has the length 1000 and the light time 1000");
        OpticalTelegraph x = new OpticalTelegraph();
        check.due("setDay(1000, 1000)", x.setDay(1000, 1000), 0);
        for (int t : new int[] {0, 999, 1000, 1999, 2000}) {
            Check.runTo(x, t);
            check.due("isBlind(0) at " + t, x.isBlind(0), 0);
        }
        check.due("linkCount(0, 3)", x.linkCount(0, 3), 0);
        check.due("setDay(1000, 999)", new OpticalTelegraph().setDay(1000, 999), 1);
        check.due("setDay(999, 999)", new OpticalTelegraph().setDay(999, 999), 1);
    }

    private static void newRowsAreEmpty() {
        check.part("promise 1: There are no messages, fogs, faults and words");
        OpticalTelegraph x = new OpticalTelegraph();
        for (int what = 2; what <= 6; what++) {
            check.due("value(" + what + ")", x.value(what), 0);
        }
        check.due("clearText()", x.clearText(), 0);
        check.due("addFog", x.addFog(0, 5, 5), 1);
        check.due("addFault", x.addFault(0, 5, 5), 1);
        x.type('a');
        check.due("addWord", x.addWord(30, 30), 1);
        check.due("send", x.send(0, 1, 0), 0);
    }

    private static void resetTowers() {
        check.part("promise 2: towers: n, 3 to 8");
        check.range("reset", 3, 8, 4, -3, n -> new OpticalTelegraph().reset(n));
        check.part("promise 2: Returns the previous number of towers");
        for (int before = 3; before <= 8; before++) {
            for (int then = 3; then <= 8; then++) {
                OpticalTelegraph x = new OpticalTelegraph();
                x.reset(before);
                check.due("reset(" + then + ") after reset(" + before + ")", x.reset(then), before);
                check.due("value(1)", x.value(1), then);
            }
        }
    }

    private static void resetEmptiesFullRows() {
        check.part("promise 2: the time is 0, and there are no messages, fogs and faults");
        OpticalTelegraph x = Scenes.full("a");
        check.due("reset(8)", x.reset(8), 8);
        int[] values = {0, 8, 0, 0, 20, 0, 0};
        for (int what = 0; what < 7; what++) {
            check.due("value(" + what + ")", x.value(what), values[what]);
        }
        for (int t = 0; t < 8; t++) {
            check.due("shown(" + t + ")", x.shown(t), 0);
            check.due("task(" + t + ", 0)", x.task(t, 0), -6);
        }
        check.due("message(0, 0)", x.message(0, 0), -2);
        check.due("isBlind(5), where there was a fog", x.isBlind(5), 0);
        // What was there does no work any more, and there is room for as much again.
        check.due("send(7, 6, 0)", x.send(7, 6, 0), 0);
        x.run(9);
        check.due("message(0, 6), where there were faults", x.message(0, 6), 9);
        check.due("linkCount(6, 0)", x.linkCount(6, 0), 6);
        check.due("linkCount(5, 3)", x.linkCount(5, 3), 0);
        for (int i = 1; i < 10; i++) {
            check.due("send", x.send(0, 1, 0), i);
        }
        for (int i = 1; i <= 12; i++) {
            check.due("addFog", x.addFog(6, 100, 100), i);
        }
        for (int i = 1; i <= 16; i++) {
            check.due("addFault", x.addFault(6, i, 1), i);
        }
    }

    /** Every other link has worked, counted an error and been blind before the reset. */
    private static void resetStartsAnew() {
        check.part("promise 2: Starts anew");
        for (int odd = 0; odd < 2; odd++) {
            OpticalTelegraph x = new OpticalTelegraph();
            x.reset(8);
            x.type('a');
            for (int l = odd; l < 7; l += 2) {
                x.send(l, l + 1, 0);
                x.addFault(l, 3, 5);
                x.addFog(l, 6, 6);
            }
            x.run(7);
            int[] before = {4, 1, 1, 1};
            for (int m = 0; m < 4 - odd; m++) {
                int link = 2 * m + odd;
                checkWork(x, m, link, 3, 1, before);
            }
            x.reset(8);
            int[] then = {0, 0, 0, 0};
            for (int m = 0; m < 4 - odd; m++) {
                int link = 2 * m + odd;
                x.send(link, link + 1, 0);
                checkWork(x, m, link, 0, 0, then);
                check.due("copied(" + m + ", " + (link + 1) + ")", x.copied(m, link + 1), 0);
            }
            check.due("run(5)", x.run(5), 4 - odd);
            check.due("run(1)", x.run(1), 0);
        }
    }

    private static void checkWork(OpticalTelegraph x, int message, int link, int step, int errors, int[] counts) {
        check.due("step(" + message + ", " + link + ")", x.step(message, link), step);
        check.due("message(" + message + ", 7)", x.message(message, 7), errors);
        check.due("message(" + message + ", 6)", x.message(message, 6), -6);
        for (int what = 0; what < 4; what++) {
            check.due("linkCount(" + link + ", " + what + ")", x.linkCount(link, what), counts[what]);
        }
    }

    private static void resetLeavesDayBookAndText() {
        check.part("promise 2: The day, the code book and the text stay");
        OpticalTelegraph x = Scenes.full("a".repeat(60));
        x.setDay(10000, 9999);
        x.reset(3);
        check.due("setDay(10000, 9999)", x.setDay(10000, 9999), 0);
        check.due("value(4)", x.value(4), 20);
        check.due("signCount()", x.signCount(), 61);
        check.due("type('a')", x.type('a'), -5);
        check.due("clearText()", x.clearText(), 60);
        x.type('t');
        check.due("send(0, 1, 0)", x.send(0, 1, 0), 0);
        check.due("sign(0, 0, 2)", x.sign(0, 0, 2), 79);
        // So do an empty text, an empty book and the day of a new object.
        OpticalTelegraph y = new OpticalTelegraph();
        y.reset(8);
        check.due("clearText()", y.clearText(), 0);
        check.due("value(4)", y.value(4), 0);
        check.due("setDay(1000, 1000)", y.setDay(1000, 1000), 0);
    }

    private static void resetRefused() {
        check.part("promise 2: BAD_VALUE changes nothing");
        busy.stay("reset(2)", x -> x.reset(2), -3);
        busy.stay("reset(9)", x -> x.reset(9), -3);
        full.stay("reset(0)", x -> x.reset(0), -3);
        full.stay("reset(-1)", x -> x.reset(-1), -3);
        empty.stay("reset(2)", x -> x.reset(2), -3);
    }

    private static void dayRanges() {
        check.part("promise 3: length: 1 to 10000");
        check.range("setDay of a length", 1, 10000, 1, -3, length -> new OpticalTelegraph().setDay(length, 1));
        check.part("promise 3: light: 1 to length");
        for (int length : new int[] {1, 2, 50, 9999, 10000}) {
            check.range("setDay of a light time", 1, length, 1, -3, light -> new OpticalTelegraph().setDay(length, light));
        }
        check.due("setDay(0, 0)", new OpticalTelegraph().setDay(0, 0), -3);
        check.due("setDay(10001, 10001)", new OpticalTelegraph().setDay(10001, 10001), -3);
        check.due("setDay(-1, -1)", new OpticalTelegraph().setDay(-1, -1), -3);
    }

    private static void dayChanged() {
        check.part("promise 3: Returns 1 if this changes it, otherwise 0");
        OpticalTelegraph x = new OpticalTelegraph();
        int[][] days = {{1000, 1000, 0}, {1000, 1, 1}, {1000, 1, 0}, {1, 1, 1}, {1, 1, 0}, {10000, 1, 1}, {10000, 10000, 1}, {10000, 10000, 0},
            {10000, 9999, 1}, {9999, 9999, 1}, {9999, 9999, 0}, {1000, 1000, 1}, {1000, 1000, 0}};
        for (int[] day : days) {
            check.due("setDay(" + day[0] + ", " + day[1] + ")", x.setDay(day[0], day[1]), day[2]);
        }
        // It is changed at once, also in the midst of a day.
        x.run(7);
        x.setDay(8, 7);
        check.due("isBlind(0)", x.isBlind(0), 1);
        x.setDay(7, 1);
        check.due("isBlind(0)", x.isBlind(0), 0);
        x.setDay(6, 1);
        check.due("isBlind(0)", x.isBlind(0), 1);
        x.setDay(6, 2);
        check.due("isBlind(0)", x.isBlind(0), 0);
    }

    private static void dayRefused() {
        check.part("promise 3: BAD_VALUE changes nothing");
        busy.stay("setDay(0, 1)", x -> x.setDay(0, 1), -3);
        busy.stay("setDay(10001, 1)", x -> x.setDay(10001, 1), -3);
        busy.stay("setDay(50, 0)", x -> x.setDay(50, 0), -3);
        busy.stay("setDay(30, 31)", x -> x.setDay(30, 31), -3);
        busy.stay("setDay(50, 40), which changes nothing", x -> x.setDay(50, 40), 0);
    }

    private static void fogRanges() {
        check.part("promise 4: first: its first minute, 0 to 100000");
        check.range("addFog of a first minute", 0, 100000, 1, -3, first -> new OpticalTelegraph().addFog(0, first, 100000));
        check.part("promise 4: last: its last minute, first to 100000");
        for (int first : new int[] {0, 1, 50000, 99999, 100000}) {
            check.range("addFog of a last minute", first, 100000, 1, -3, last -> new OpticalTelegraph().addFog(2, first, last));
        }
        check.due("addFog(0, -1, -1)", new OpticalTelegraph().addFog(0, -1, -1), -3);
        check.due("addFog(0, 100001, 100001)", new OpticalTelegraph().addFog(0, 100001, 100001), -3);
        check.part("promise 4: link: a link");
        check.range("addFog of a link", 0, 2, 1, -1, link -> new OpticalTelegraph().addFog(link, 0, 0));
    }

    private static void fogsUntilFull() {
        check.part("promise 4: Returns the number of fogs then; FULL if there are 12");
        OpticalTelegraph x = new OpticalTelegraph();
        for (int i = 1; i <= 12; i++) {
            // The same fog may come twice.
            check.due("addFog", x.addFog(i % 3, i / 2, i / 2), i);
        }
        check.due("addFog of a thirteenth", x.addFog(0, 100, 100), -5);
        check.due("addFog of a fog that there is", x.addFog(0, 1, 1), -5);
        check.due("value(5)", x.value(5), 12);
        Check.runTo(x, 100);
        check.due("isBlind(0)", x.isBlind(0), 0);
        // Fogs that have passed still take room; the last one of the twelve counts.
        check.due("addFog", x.addFog(0, 200, 200), -5);
        check.due("linkCount(0, 3)", x.linkCount(0, 3), 4);
        x.reset(4);
        for (int i = 1; i < 12; i++) {
            x.addFog(0, 0, 0);
        }
        x.addFog(1, 2, 2);
        x.run(2);
        check.due("isBlind(1) by the twelfth fog", x.isBlind(1), 1);
    }

    private static void fogErrorsInOrder() {
        check.part("promise 4: NO_SUCH_PLACE; BAD_VALUE; FULL");
        OpticalTelegraph x = Scenes.busy();
        check.due("no link, bad first minute", x.addFog(4, -1, 0), -1);
        check.due("no link, bad last minute", x.addFog(-1, 5, 4), -1);
        x = Scenes.full("a");
        check.due("no link, full", x.addFog(7, 0, 0), -1);
        check.due("no link, bad last minute, full", x.addFog(7, 0, 100001), -1);
        check.due("bad first minute, full", x.addFog(6, -1, 0), -3);
        check.due("bad last minute, full", x.addFog(0, 1, 0), -3);
        check.due("full", x.addFog(0, 0, 0), -5);
    }

    private static void fogRefused() {
        check.part("promise 4: a refused call changes nothing");
        busy.stay("addFog(4, 0, 50)", x -> x.addFog(4, 0, 50), -1);
        busy.stay("addFog(-1, 0, 50)", x -> x.addFog(-1, 0, 50), -1);
        busy.stay("addFog(0, -1, 50)", x -> x.addFog(0, -1, 50), -3);
        busy.stay("addFog(1, 0, 100001)", x -> x.addFog(1, 0, 100001), -3);
        busy.stay("addFog(1, 20, 19)", x -> x.addFog(1, 20, 19), -3);
        full.stay("addFog(0, 0, 100)", x -> x.addFog(0, 0, 100), -5);
    }

    private static void faultRanges() {
        check.part("promise 5: link: a link");
        check.range("addFault of a link", 0, 2, 1, -1, link -> new OpticalTelegraph().addFault(link, 1, 1));
        check.part("promise 5: reading: number of the reading, 1 to 10000");
        check.range("addFault of a reading", 1, 10000, 1, -3, reading -> new OpticalTelegraph().addFault(0, reading, 1));
        check.part("promise 5: offset: 1 to 99");
        check.range("addFault of an offset", 1, 99, 1, -3, offset -> new OpticalTelegraph().addFault(2, 1, offset));
    }

    private static void faultForThisReading() {
        check.part("promise 5: NOT_POSSIBLE if there is a fault for this reading of this link");
        OpticalTelegraph x = new OpticalTelegraph();
        check.due("addFault(1, 2, 3)", x.addFault(1, 2, 3), 1);
        check.due("addFault(1, 2, 3)", x.addFault(1, 2, 3), -4);
        check.due("addFault(1, 2, 4)", x.addFault(1, 2, 4), -4);
        check.due("addFault(1, 1, 3)", x.addFault(1, 1, 3), 2);
        check.due("addFault(1, 3, 3)", x.addFault(1, 3, 3), 3);
        check.due("addFault(0, 2, 3)", x.addFault(0, 2, 3), 4);
        check.due("addFault(2, 2, 3)", x.addFault(2, 2, 3), 5);
        check.due("addFault(2, 1, 3)", x.addFault(2, 1, 3), 6);
        check.due("addFault(0, 10000, 99)", x.addFault(0, 10000, 99), 7);
        check.due("addFault(0, 10000, 1)", x.addFault(0, 10000, 1), -4);
        // Also if the reading has already been.
        Check.send(x, "a", 1, 2, 0);
        x.run(20);
        check.due("addFault(1, 2, 3)", x.addFault(1, 2, 3), -4);
        check.due("addFault(1, 4, 3)", x.addFault(1, 4, 3), 8);
    }

    private static void faultsUntilFull() {
        check.part("promise 5: Returns the number of faults then; FULL if there are 16 faults");
        OpticalTelegraph x = new OpticalTelegraph();
        for (int i = 1; i <= 15; i++) {
            check.due("addFault", x.addFault(0, 100 + i, i), i);
        }
        check.due("addFault of a sixteenth", x.addFault(1, 1, 5), 16);
        check.due("addFault of a seventeenth", x.addFault(2, 1, 5), -5);
        check.due("value(6)", x.value(6), 16);
        Check.send(x, "a", 1, 2, 1);
        Check.send(x, "a", 2, 3, 0);
        x.run(20);
        check.due("message(0, 6), by the sixteenth fault", x.message(0, 6), 10);
        check.due("message(1, 6), without a fault", x.message(1, 6), 16);
        check.due("addFault, though a fault has been", x.addFault(2, 100, 5), -5);
    }

    private static void faultErrorsInOrder() {
        check.part("promise 5: NO_SUCH_PLACE; BAD_VALUE; NOT_POSSIBLE; FULL");
        OpticalTelegraph x = Scenes.busy();
        check.due("no link, bad reading", x.addFault(4, 0, 1), -1);
        check.due("no link, bad offset", x.addFault(-1, 1, 100), -1);
        check.due("bad reading, bad offset", x.addFault(0, 10001, 0), -3);
        check.due("bad offset, such a fault", x.addFault(0, 1, 0), -3);
        check.due("bad offset, such a fault", x.addFault(0, 1, 100), -3);
        x = Scenes.full("a");
        check.due("no link, full", x.addFault(7, 17, 1), -1);
        check.due("no link, bad offset, full", x.addFault(7, 17, 0), -1);
        check.due("bad reading, full", x.addFault(6, 0, 1), -3);
        check.due("bad offset, full", x.addFault(6, 17, 100), -3);
        check.due("bad offset, such a fault, full", x.addFault(6, 16, 0), -3);
        check.due("such a fault, full", x.addFault(6, 16, 16), -4);
        check.due("such a fault, full", x.addFault(6, 1, 99), -4);
        check.due("full", x.addFault(6, 17, 1), -5);
        check.due("full", x.addFault(5, 16, 1), -5);
    }

    private static void faultRefused() {
        check.part("promise 5: a refused call changes nothing");
        busy.stay("addFault(4, 9, 1)", x -> x.addFault(4, 9, 1), -1);
        busy.stay("addFault(-1, 9, 1)", x -> x.addFault(-1, 9, 1), -1);
        busy.stay("addFault(3, 0, 1)", x -> x.addFault(3, 0, 1), -3);
        busy.stay("addFault(3, 10001, 1)", x -> x.addFault(3, 10001, 1), -3);
        busy.stay("addFault(3, 9, 0)", x -> x.addFault(3, 9, 0), -3);
        busy.stay("addFault(3, 9, 100)", x -> x.addFault(3, 9, 100), -3);
        busy.stay("addFault(3, 6, 5)", x -> x.addFault(3, 6, 5), -4);
        full.stay("addFault(6, 1, 50)", x -> x.addFault(6, 1, 50), -4);
        full.stay("addFault(0, 1, 50)", x -> x.addFault(0, 1, 50), -5);
    }

    private static void blindInTheNextMinute() {
        check.part("promise 6: 1 if the link is blind in the next minute, otherwise 0; NO_SUCH_PLACE");
        OpticalTelegraph x = new OpticalTelegraph();
        x.addFog(1, 0, 0);
        check.due("isBlind(1) before the first minute", x.isBlind(1), 1);
        x.run(1);
        check.due("isBlind(1) after it", x.isBlind(1), 0);
        x.addFog(1, 0, 0);
        check.due("isBlind(1), a fog that has passed", x.isBlind(1), 0);
        x.addFog(1, 2, 2);
        check.due("isBlind(1), a fog after the next minute", x.isBlind(1), 0);
        x.addFog(1, 1, 1);
        check.due("isBlind(1), a fog in the next minute", x.isBlind(1), 1);
        check.range("isBlind at night", 0, 2, 1, -1, link -> atNight().isBlind(link));
    }

    private static OpticalTelegraph atNight() {
        OpticalTelegraph x = new OpticalTelegraph();
        x.setDay(2, 1);
        x.run(1);
        return x;
    }

    private static void countRanges() {
        check.part("promise 7: link: a link");
        check.range("linkCount of a link", 0, 2, 1, -1, link -> afterNight().linkCount(link, 3));
        check.part("promise 7: what: 0 .. 3");
        check.range("linkCount of what", 0, 3, 0, -3, what -> new OpticalTelegraph().linkCount(2, what));
    }

    private static OpticalTelegraph afterNight() {
        OpticalTelegraph x = atNight();
        x.run(1);
        return x;
    }

    private static void countErrorsInOrder() {
        check.part("promise 7: NO_SUCH_PLACE; BAD_VALUE");
        OpticalTelegraph x = new OpticalTelegraph();
        check.due("linkCount(3, -1)", x.linkCount(3, -1), -1);
        check.due("linkCount(3, 4)", x.linkCount(3, 4), -1);
        check.due("linkCount(-1, 4)", x.linkCount(-1, 4), -1);
        check.due("linkCount(2, 4)", x.linkCount(2, 4), -3);
    }

    private static void askingChangesNothing() {
        check.part("promises 6 and 7: asking changes nothing");
        busy.stay("isBlind(4)", x -> x.isBlind(4), -1);
        busy.stay("isBlind(2)", x -> x.isBlind(2), 0);
        busy.stay("linkCount(4, 0)", x -> x.linkCount(4, 0), -1);
        busy.stay("linkCount(0, 4)", x -> x.linkCount(0, 4), -3);
        busy.stay("linkCount(0, 1)", x -> x.linkCount(0, 1), 1);
    }
}
