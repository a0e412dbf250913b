/** The boundary cases of "Shown signs" and of the promises 21 to 24, sentence by sentence. */
public final class TimeEdgesTest {
    private static final int MIN = Integer.MIN_VALUE;
    private static final int MAX = Integer.MAX_VALUE;
    private static final Check check = new Check();
    private static final Twins empty = new Twins(check, OpticalTelegraph::new);
    private static final Twins busy = new Twins(check, Scenes::busy);
    private static final Twins full = new Twins(check, () -> Scenes.full("zz"));

    public static void main(String[] args) {
        runRange();
        runCountsUnderWay();
        runRefused();
        valueRange();
        valuesOfFullRows();
        shownBeforeTheFirstMinute();
        shownAfterEachStep();
        shownOfWrongReadings();
        shownOnABlindLink();
        shownIfOneTowerTookIt();
        shownInTheLatestMinute();
        shownErrors();
        taskRange();
        taskOfNothing();
        taskAsThingsAreNow();
        taskErrorsInOrder();
        askingChangesNothing();
        check.end();
    }

    private static OpticalTelegraph sent(String text, int from, int to) {
        OpticalTelegraph x = new OpticalTelegraph();
        Check.send(x, text, from, to, 0);
        return x;
    }

    private static void runRange() {
        check.part("promise 21: minutes: 1 to 300");
        check.range("run", 1, 300, 0, -3, minutes -> new OpticalTelegraph().run(minutes));
        for (int minutes : new int[] {1, 2, 299, 300}) {
            OpticalTelegraph x = new OpticalTelegraph();
            x.run(minutes);
            check.due("value(0) after run(" + minutes + ")", x.value(0), minutes);
        }
    }

    private static void runCountsUnderWay() {
        check.part("promise 21: Returns the number of messages under way then");
        OpticalTelegraph x = new OpticalTelegraph();
        check.due("run(300) without messages", x.run(300), 0);
        x.reset(3);
        x.type('a');
        for (int i = 0; i < 10; i++) {
            x.send(0, 1, 0);
        }
        check.due("run(5)", x.run(5), 10);
        for (int left = 9; left >= 0; left--) {
            check.due("run(1) to an arrival", x.run(1), left);
            check.due("run(5) after an arrival", x.run(5), left);
        }
        x.reset(3);
        x.send(0, 1, 0);
        x.send(0, 1, 0);
        x.cancel(0);
        check.due("run(1), one cancelled", x.run(1), 1);
        check.due("run(5), one cancelled", x.run(5), 0);
    }

    private static void runRefused() {
        check.part("promise 21: BAD_VALUE changes nothing");
        busy.stay("run(0)", x -> x.run(0), -3);
        busy.stay("run(-1)", x -> x.run(-1), -3);
        busy.stay("run(301)", x -> x.run(301), -3);
        full.stay("run(MAX)", x -> x.run(MAX), -3);
        empty.stay("run(MIN)", x -> x.run(MIN), -3);
    }

    private static void valueRange() {
        check.part("promise 22: what: 0 .. 6");
        OpticalTelegraph x = new OpticalTelegraph();
        int[] due = {0, 4, 0, 0, 0, 0, 0};
        for (int what = 0; what < 7; what++) {
            check.due("value(" + what + ")", x.value(what), due[what]);
        }
        for (int bad : new int[] {-1, 7, MIN, MAX}) {
            check.due("value(" + bad + ")", x.value(bad), -3);
            check.due("value(" + bad + ") of a full object", Scenes.full("").value(bad), -3);
        }
    }

    private static void valuesOfFullRows() {
        check.part("promise 22: the numbers of full rows");
        OpticalTelegraph x = Scenes.full("zz");
        x.addFog(0, 0, 0);
        x.addFault(0, 1, 1);
        x.addWord(30, 30);
        x.send(0, 1, 0);
        int[] due = {2, 8, 10, 10, 20, 12, 16};
        for (int what = 0; what < 7; what++) {
            check.due("value(" + what + ")", x.value(what), due[what]);
        }
        x.cancel(9);
        check.due("value(2) after a message was cancelled", x.value(2), 10);
        check.due("value(3) after a message was cancelled", x.value(3), 9);
        for (int i = 0; i < 8; i++) {
            x.run(300);
        }
        check.due("value(2) after all have arrived", x.value(2), 10);
        check.due("value(3) after all have arrived", x.value(3), 0);
        check.due("value(5) after all fogs", x.value(5), 12);
        check.due("value(6) after all faults", x.value(6), 16);
    }

    private static void checkShown(OpticalTelegraph x, String when, int... due) {
        for (int t = 0; t < due.length; t++) {
            check.due("shown(" + t + ") " + when, x.shown(t), due[t]);
        }
    }

    private static void shownBeforeTheFirstMinute() {
        check.part("In all other cases it shows 0, also before the first minute");
        checkShown(new OpticalTelegraph(), "of a new object", 0, 0, 0, 0);
        OpticalTelegraph x = sent("a", 0, 3);
        checkShown(x, "before the first minute", 0, 0, 0, 0);
        x.run(1);
        checkShown(x, "after the first minute", 1, 0, 0, 0);
        x.reset(4);
        checkShown(x, "after a reset", 0, 0, 0, 0);
        x.run(10);
        checkShown(x, "without messages", 0, 0, 0, 0);
    }

    private static void shownAfterEachStep() {
        check.part("as the tower before the link, the sign if step 1 or 2 followed, the error sign if step 0 followed step 3, "
            + "and 0 if step 0 followed step 2 or step 3 followed; as the tower behind the link, what it has read if step 2 followed, otherwise 0");
        int[] before = {26, 26, 0, 99, 26, 26, 0, 27, 27, 0, 0};
        int[] behind = {0, 30, 0, 0, 0, 26, 0, 0, 27, 0, 0};
        for (int down = 0; down < 2; down++) {
            OpticalTelegraph x = sent("z", 1 + down, 2 - down);
            x.addFault(1, 1, 4);
            for (int i = 0; i < before.length; i++) {
                x.run(1);
                int low = down == 0 ? before[i] : behind[i];
                int high = down == 0 ? behind[i] : before[i];
                checkShown(x, "at " + (i + 1), 0, low, high, 0);
            }
            check.due("message(0, 6)", x.message(0, 6), 10);
        }
    }

    private static void shownOfWrongReadings() {
        check.part("what it has read if step 2 followed");
        int[] offsets = {1, 98, 99, 50};
        int[] read = {2, 99, 0, 51};
        for (int i = 0; i < offsets.length; i++) {
            OpticalTelegraph x = sent("a", 0, 1);
            x.addFault(0, 1, offsets[i]);
            x.run(2);
            checkShown(x, "with the offset " + offsets[i], 1, read[i], 0, 0);
            x.run(2);
            checkShown(x, "after the error", 99, 0, 0, 0);
        }
        // A wrong reading in step 2 is not shown, but the error that follows is.
        OpticalTelegraph x = sent("a", 0, 1);
        x.addFault(0, 2, 1);
        x.run(2);
        checkShown(x, "before a wrong reading in step 2", 1, 1, 0, 0);
        x.run(1);
        checkShown(x, "after a wrong reading in step 2", 0, 0, 0, 0);
        x.run(1);
        checkShown(x, "after step 3", 99, 0, 0, 0);
    }

    private static void shownOnABlindLink() {
        check.part("if the link was not blind then");
        int[][] next = {{1, 0}, {1, 5}, {0, 0}, {99, 0}};
        for (int step = 0; step < 4; step++) {
            OpticalTelegraph x = sent("a", 0, 1);
            x.addFault(0, 1, 4);
            x.addFog(0, step, step);
            Check.runTo(x, step + 1);
            checkShown(x, "after fog before step " + step, 0, 0, 0, 0);
            x.run(1);
            checkShown(x, "after step " + step, next[step][0], next[step][1], 0, 0);
        }
        // The fog of another link does no harm.
        OpticalTelegraph x = sent("a", 0, 1);
        x.addFog(1, 0, 10);
        x.addFog(2, 0, 10);
        x.run(1);
        checkShown(x, "beside the fog", 1, 0, 0, 0);
    }

    private static void shownIfOneTowerTookIt() {
        check.part("and both towers had taken it");
        OpticalTelegraph x = sent("a", 0, 1);
        Check.send(x, "b", 2, 1, 1);
        for (int i = 0; i < 6; i++) {
            check.due("task(0, 0)", x.task(0, 0), 0);
            x.run(1);
            check.due("shown(0), while tower 1 is for message 1", x.shown(0), 0);
        }
        x.run(1);
        checkShown(x, "when tower 1 is for message 0", 1, 0, 0, 0);
        // Also of one message: tower 0 waits with the next sign while tower 1 passes on the first.
        OpticalTelegraph y = sent("ab", 0, 2);
        y.run(4);
        checkShown(y, "while tower 1 goes on", 0, 1, 0, 0);
        y.run(1);
        checkShown(y, "while tower 1 goes on", 0, 1, 1, 0);
        y.run(2);
        checkShown(y, "when tower 1 is back", 2, 0, 0, 0);
    }

    private static void shownInTheLatestMinute() {
        check.part("for the message and link that it took in the latest minute");
        OpticalTelegraph x = sent("a", 0, 1);
        x.run(2);
        x.setDay(2, 1);
        x.addFog(0, 1, 5);
        x.addFault(0, 1, 9);
        Check.send(x, "b", 2, 1, 2);
        x.setPriority(0, 1);
        x.forecast(0);
        x.effect(0, 1, 0);
        checkShown(x, "though much has changed since", 1, 1, 0, 0);
        x.cancel(0);
        checkShown(x, "though the message is cancelled", 1, 1, 0, 0);
        x.run(1);
        checkShown(x, "a minute later", 0, 0, 2, 0);
    }

    private static void shownErrors() {
        check.part("promise 23: tower: a tower; NO_SUCH_PLACE");
        check.range("shown", 0, 4, 0, -1, t -> lineOfFive().shown(t));
        OpticalTelegraph x = new OpticalTelegraph();
        x.reset(8);
        Check.send(x, "a", 6, 7, 0);
        x.run(2);
        check.due("shown(7)", x.shown(7), 1);
        x.reset(7);
        check.due("shown(7), which there was", x.shown(7), -1);
        check.due("shown(6)", x.shown(6), 0);
    }

    private static OpticalTelegraph lineOfFive() {
        OpticalTelegraph x = new OpticalTelegraph();
        x.reset(5);
        return x;
    }

    private static void taskRange() {
        check.part("promise 24: tower: a tower");
        check.range("task of a tower", 0, 3, 0, -1, t -> sentEverywhere().task(t, 0));
        check.part("promise 24: what: 0 for the message, 1 for the link");
        check.range("task of what", 0, 1, 0, -3, what -> sent("a", 0, 1).task(1, what));
        OpticalTelegraph x = sent("a", 3, 2);
        check.due("task(3, 0)", x.task(3, 0), 0);
        check.due("task(3, 1)", x.task(3, 1), 2);
    }

    /** Message 0 keeps all four towers busy. */
    private static OpticalTelegraph sentEverywhere() {
        OpticalTelegraph x = sent("ab", 0, 3);
        x.run(6);
        return x;
    }

    private static void taskOfNothing() {
        check.part("promise 24: NONE if it will take nothing");
        for (int what = 0; what < 2; what++) {
            check.due("task without messages", new OpticalTelegraph().task(0, what), -6);
            check.due("task beside the way", sent("a", 1, 2).task(0, what), -6);
            check.due("task beside the way", sent("a", 1, 2).task(3, what), -6);
            OpticalTelegraph x = sent("a", 1, 2);
            x.run(5);
            check.due("task before the last minute", x.task(1, what), what);
            x.run(1);
            check.due("task after it", x.task(1, what), -6);
            OpticalTelegraph y = sent("a", 1, 2);
            y.cancel(0);
            check.due("task of a cancelled message", y.task(1, what), -6);
        }
    }

    private static void taskAsThingsAreNow() {
        check.part("promise 24: what a tower will take in the next minute, as things are now");
        OpticalTelegraph x = sent("a", 1, 0);
        check.due("task(1, 0)", x.task(1, 0), 0);
        Check.send(x, "b", 1, 2, 0);
        check.due("task(1, 0) after another was sent", x.task(1, 0), 1);
        x.setPriority(0, 1);
        check.due("task(1, 0) after a priority was set", x.task(1, 0), 0);
        x.cancel(0);
        check.due("task(1, 0) after one was cancelled", x.task(1, 0), 1);
        x.addFog(1, 0, 100);
        check.due("task(1, 0) in the fog", x.task(1, 0), 1);
        x.reset(4);
        check.due("task(1, 0) after a reset", x.task(1, 0), -6);
    }

    private static void taskErrorsInOrder() {
        check.part("promise 24: NO_SUCH_PLACE; BAD_VALUE; NONE");
        OpticalTelegraph x = new OpticalTelegraph();
        check.due("no tower, bad what", x.task(4, 2), -1);
        check.due("no tower, bad what", x.task(-1, -1), -1);
        check.due("no tower", x.task(4, 0), -1);
        check.due("bad what, nothing to take", x.task(3, 2), -3);
        check.due("bad what, nothing to take", x.task(0, -1), -3);
        check.due("nothing to take", x.task(3, 1), -6);
    }

    private static void askingChangesNothing() {
        check.part("promises 22 to 24: asking changes nothing");
        busy.stay("value(7)", x -> x.value(7), -3);
        busy.stay("value(-1)", x -> x.value(-1), -3);
        busy.stay("value(3)", x -> x.value(3), 2);
        busy.stay("shown(5)", x -> x.shown(5), -1);
        busy.stay("shown(-1)", x -> x.shown(-1), -1);
        busy.stay("task(5, 0)", x -> x.task(5, 0), -1);
        busy.stay("task(0, 2)", x -> x.task(0, 2), -3);
        busy.stay("task(4, 0)", x -> x.task(4, 0), 1);
        empty.stay("task(0, 0)", x -> x.task(0, 0), -6);
        full.stay("task(7, 1)", x -> x.task(7, 1), -6);
    }
}
