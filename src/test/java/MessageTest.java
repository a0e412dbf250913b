/** Promises 13 to 20: sending, cancelling and asking about messages. */
public final class MessageTest {
    private static final int MIN = Integer.MIN_VALUE;
    private static final int MAX = Integer.MAX_VALUE;
    private static final Check check = new Check();

    public static void main(String[] args) {
        send();
        sendUntilFull();
        cancel();
        setPriority();
        message();
        copied();
        sign();
        reading();
        readingOfWrongSigns();
        step();
        stepStays();
        check.end();
    }

    private static void send() {
        check.part("promise 13");
        OpticalTelegraph x = new OpticalTelegraph();
        Check.write(x, "b!");
        int[][] wrong = {{-1, 0, 0, -1}, {0, -1, 0, -1}, {4, 0, 0, -1}, {0, 4, 3, -1}, {4, 4, 0, -1}, {MIN, 0, 0, -1}, {0, MAX, 0, -1},
            {1, 1, 0, -3}, {0, 1, -1, -3}, {0, 1, 3, -3}, {0, 1, MIN, -3}, {0, 1, MAX, -3}, {0, 1, 0, -101}, {3, 2, 2, -101}};
        for (int[] w : wrong) {
            check.due("send(" + w[0] + ", " + w[1] + ", " + w[2] + ")", x.send(w[0], w[1], w[2]), w[3]);
            check.due("value(2)", x.value(2), 0);
        }
        x.clearText();
        check.due("send of an empty text", x.send(0, 1, 0), -100);
        Check.write(x, "ab ");
        check.due("send of 'ab '", x.send(0, 1, 0), -103);
        Check.write(x, "ab c");
        check.due("send(0, 3, 0)", x.send(0, 3, 0), 0);
        check.due("the text stays", x.signCount(), 5);
        check.due("send(3, 0, 2)", x.send(3, 0, 2), 1);
        int[] signs = {1, 2, 27, 3, 27, -6};
        for (int k = 0; k < signs.length; k++) {
            check.due("sign(0, 0, " + k + ")", x.sign(0, 0, k), signs[k]);
            check.due("sign(1, 3, " + k + ")", x.sign(1, 3, k), signs[k]);
        }
        check.due("value(2)", x.value(2), 2);
        check.due("value(3)", x.value(3), 2);
        // A word of the book is sent as it stands in the book at that time.
        Check.write(x, "ab");
        x.addWord(31, 95);
        check.due("send", Check.send(x, "c ab abc", 2, 1, 1), 2);
        int[] bookSigns = {3, 27, 28, 31, 95, 1, 2, 3, 27, -6};
        for (int k = 0; k < bookSigns.length; k++) {
            check.due("sign(2, 2, " + k + ")", x.sign(2, 2, k), bookSigns[k]);
        }
        check.due("sign(0, 0, 0)", x.sign(0, 0, 0), 1);
    }

    private static void sendUntilFull() {
        check.part("promise 13");
        OpticalTelegraph x = new OpticalTelegraph();
        check.due("send of 31 signs", Check.send(x, "a".repeat(30), 0, 1, 0), -5);
        check.due("send(0, 0, 0)", x.send(0, 0, 0), -3);
        check.due("value(2)", x.value(2), 0);
        for (int i = 0; i < 10; i++) {
            check.due("send of 30 signs", Check.send(x, "a".repeat(29), i % 2, 3, i % 3), i);
            check.due("message(" + i + ", 3)", x.message(i, 3), 30);
            if (i % 3 == 0) {
                x.cancel(i);
            }
        }
        check.due("send", x.send(0, 1, 0), -5);
        check.due("send(0, 1, 3)", x.send(0, 1, 3), -3);
        check.due("send(0, 9, 0)", x.send(0, 9, 0), -1);
        x.type(' ');
        check.due("send", x.send(0, 1, 0), -130);
        check.due("value(2)", x.value(2), 10);
        check.due("sign(9, 1, 29)", x.sign(9, 1, 29), 27);
        check.due("sign(9, 1, 30)", x.sign(9, 1, 30), -6);
    }

    private static void cancel() {
        check.part("promise 14");
        OpticalTelegraph x = new OpticalTelegraph();
        for (int bad : new int[] {-1, 0, MIN, MAX}) {
            check.due("cancel(" + bad + ")", x.cancel(bad), -2);
        }
        Check.send(x, "ab", 0, 1, 0);
        Check.send(x, "z", 1, 0, 0);
        check.due("cancel(2)", x.cancel(2), -2);
        x.run(8);
        check.due("cancel(0)", x.cancel(0), 2);
        check.due("cancel(0)", x.cancel(0), -4);
        check.due("message(0, 4)", x.message(0, 4), 2);
        check.due("message(0, 6)", x.message(0, 6), -6);
        check.due("copied(0, 1)", x.copied(0, 1), 2);
        check.due("sign(0, 1, 1)", x.sign(0, 1, 1), 2);
        check.due("shown stays", x.shown(1), 27);
        check.due("value(3)", x.value(3), 1);
        check.due("task(0, 0)", x.task(0, 0), 1);
        x.run(5);
        check.due("cancel(1)", x.cancel(1), 1);
        check.due("copied(0, 1)", x.copied(0, 1), 2);
        check.due("run(10)", x.run(10), 0);
        check.due("copied(1, 0)", x.copied(1, 0), 1);
        Check.send(x, "z", 1, 0, 0);
        x.run(6);
        check.due("cancel(2)", x.cancel(2), -4);
        check.due("message(2, 4)", x.message(2, 4), 1);
    }

    private static void setPriority() {
        check.part("promise 15");
        OpticalTelegraph x = new OpticalTelegraph();
        check.due("setPriority(0, 0)", x.setPriority(0, 0), -2);
        Check.send(x, "a", 0, 1, 1);
        Check.send(x, "b", 2, 1, 1);
        int[][] wrong = {{-1, 0, -2}, {2, 0, -2}, {2, 3, -2}, {MAX, 0, -2}, {0, -1, -3}, {0, 3, -3}, {0, MIN, -3}, {0, MAX, -3}};
        for (int[] w : wrong) {
            check.due("setPriority(" + w[0] + ", " + w[1] + ")", x.setPriority(w[0], w[1]), w[2]);
        }
        check.due("task(1, 0)", x.task(1, 0), 0);
        check.due("setPriority(1, 2)", x.setPriority(1, 2), 1);
        check.due("setPriority(1, 2)", x.setPriority(1, 2), 2);
        check.due("message(1, 2)", x.message(1, 2), 2);
        check.due("task(1, 0)", x.task(1, 0), 1);
        check.due("setPriority(1, 0)", x.setPriority(1, 0), 2);
        check.due("task(1, 0)", x.task(1, 0), 0);
        x.run(6);
        check.due("setPriority(0, 2)", x.setPriority(0, 2), -4);
        check.due("setPriority(0, 3)", x.setPriority(0, 3), -3);
        check.due("message(0, 2)", x.message(0, 2), 1);
        x.cancel(1);
        check.due("setPriority(1, 0)", x.setPriority(1, 0), -4);
    }

    private static void message() {
        check.part("promise 16");
        OpticalTelegraph x = new OpticalTelegraph();
        check.due("message(0, 0)", x.message(0, 0), -2);
        check.due("message(0, 8)", x.message(0, 8), -2);
        x.run(7);
        x.addFault(2, 2, 1);
        x.addFault(1, 2, 1);
        Check.send(x, "abc", 3, 1, 2);
        int[][] wrong = {{-1, 0, -2}, {1, 0, -2}, {1, 9, -2}, {MIN, 0, -2}, {0, -1, -3}, {0, 8, -3}, {0, MAX, -3}, {0, MIN, -3}};
        for (int[] w : wrong) {
            check.due("message(" + w[0] + ", " + w[1] + ")", x.message(w[0], w[1]), w[2]);
        }
        int[] due = {3, 1, 2, 4, 0, 7, -6, 0};
        for (int what = 0; what < due.length; what++) {
            check.due("message(0, " + what + ")", x.message(0, what), due[what]);
        }
        x.run(3);
        check.due("message(0, 7)", x.message(0, 7), 1);
        // 24 minutes, and 4 more for each error.
        check.due("run(28)", x.run(28), 1);
        check.due("message(0, 6)", x.message(0, 6), -6);
        check.due("run(1)", x.run(1), 0);
        int[] then = {3, 1, 2, 4, 1, 7, 39, 2};
        for (int what = 0; what < then.length; what++) {
            check.due("message(0, " + what + ")", x.message(0, what), then[what]);
        }
        Check.send(x, "a", 0, 1, 0);
        x.cancel(1);
        int[] cancelled = {0, 1, 0, 2, 2, 39, -6, 0};
        for (int what = 0; what < cancelled.length; what++) {
            check.due("message(1, " + what + ")", x.message(1, what), cancelled[what]);
        }
    }

    private static void copied() {
        check.part("promise 17");
        OpticalTelegraph x = new OpticalTelegraph();
        x.reset(5);
        check.due("copied(0, 0)", x.copied(0, 0), -2);
        check.due("copied(0, 9)", x.copied(0, 9), -2);
        Check.send(x, "ab", 3, 1, 0);
        int[][] wrong = {{-1, 0, -2}, {1, 9, -2}, {MAX, MAX, -2}, {0, -1, -1}, {0, 5, -1}, {0, MIN, -1}, {0, MAX, -1}, {0, 0, -6}, {0, 4, -6}};
        for (int[] w : wrong) {
            check.due("copied(" + w[0] + ", " + w[1] + ")", x.copied(w[0], w[1]), w[2]);
        }
        int[] atTwo = {0, 0, 0, 1, 1, 1, 1, 1, 1, 2, 2, 2, 2, 2, 2, 3, 3, 3, 3};
        int[] atOne = {0, 0, 0, 0, 0, 0, 1, 1, 1, 1, 1, 1, 2, 2, 2, 2, 2, 2, 3};
        for (int t = 0; t <= 18; t++) {
            check.due("copied(0, 3) at " + t, x.copied(0, 3), 3);
            check.due("copied(0, 2) at " + t, x.copied(0, 2), atTwo[t]);
            check.due("copied(0, 1) at " + t, x.copied(0, 1), atOne[t]);
            x.run(1);
        }
    }

    private static void sign() {
        check.part("promise 18");
        OpticalTelegraph x = new OpticalTelegraph();
        check.due("sign(0, 0, 0)", x.sign(0, 0, 0), -2);
        x.addFault(0, 1, 30);
        x.addFault(0, 2, 70);
        Check.send(x, "yz", 0, 2, 0);
        int[][] wrong = {{-1, 0, 0, -2}, {1, 9, -1, -2}, {0, -1, -1, -1}, {0, 4, 0, -1}, {0, MAX, 0, -1}, {0, MIN, 0, -1}, {0, 0, -1, -3},
            {0, 0, MIN, -3}, {0, 3, -1, -3}, {0, 3, 0, -6}, {0, 0, 3, -6}, {0, 0, MAX, -6}, {0, 1, 0, -6}, {0, 2, 0, -6}};
        for (int[] w : wrong) {
            check.due("sign(" + w[0] + ", " + w[1] + ", " + w[2] + ")", x.sign(w[0], w[1], w[2]), w[3]);
        }
        x.run(30);
        int[] first = {25, 26, 27};
        int[] last = {55, 26, 27};
        for (int k = 0; k < 3; k++) {
            check.due("sign(0, 0, " + k + ")", x.sign(0, 0, k), first[k]);
            check.due("sign(0, 1, " + k + ")", x.sign(0, 1, k), last[k]);
            check.due("sign(0, 2, " + k + ")", x.sign(0, 2, k), last[k]);
        }
        check.due("message(0, 7)", x.message(0, 7), 0);
        // Another message gets rows of its own, also after a reset.
        x.reset(4);
        Check.send(x, "b", 3, 2, 0);
        check.due("sign(0, 3, 0)", x.sign(0, 3, 0), 2);
        check.due("sign(0, 3, 1)", x.sign(0, 3, 1), 27);
        check.due("sign(0, 3, 2)", x.sign(0, 3, 2), -6);
        check.due("sign(0, 2, 0)", x.sign(0, 2, 0), -6);
        check.due("sign(0, 0, 0)", x.sign(0, 0, 0), -6);
    }

    private static void reading() {
        check.part("promise 19");
        OpticalTelegraph x = new OpticalTelegraph();
        check.due("reading(0, 0, 0)", x.reading(0, 0, 0), -2);
        Check.write(x, "abcdefghij");
        x.addWord(30, 31);
        Check.write(x, "q");
        x.addWord(31, 30);
        Check.send(x, "az abcdefghij q x", 0, 2, 0);
        int[][] wrong = {{-1, 0, 0, -2}, {1, 9, -1, -2}, {0, -1, -1, -1}, {0, 4, 0, -1}, {0, MAX, 0, -1}, {0, 0, -1, -3}, {0, 3, MIN, -3},
            {0, 3, 0, -6}, {0, 1, 0, -6}, {0, 0, 18, -6}, {0, 0, MAX, -6}};
        for (int[] w : wrong) {
            check.due("reading(" + w[0] + ", " + w[1] + ", " + w[2] + ")", x.reading(w[0], w[1], w[2]), w[3]);
        }
        check.dueText("reading at the first tower", Check.read(x, 0, 0), "az abcdefghij q x ");
        String[] parts = {"", "a", "az", "az ", "az #", "az ##", "az abcdefghij ", "az abcdefghij #", "az abcdefghij ##", "az abcdefghij q ",
            "az abcdefghij q x", "az abcdefghij q x "};
        for (int i = 0; i < parts.length; i++) {
            check.dueText("reading at tower 2 of " + i + " signs", Check.read(x, 0, 2), parts[i]);
            x.run(6);
        }
        // Up to ten words of ten letters.
        x.reset(4);
        Check.send(x, "abcdefghij abcdefghij abcdefghij abcdefghij abcdefghij", 0, 1, 0);
        check.dueText("reading", Check.read(x, 0, 0), "abcdefghij ".repeat(5));
        // The book as it is now.
        Check.write(x, "abcdefghij");
        x.removeWord();
        check.dueText("reading", Check.read(x, 0, 0), "? ".repeat(5));
        Check.write(x, "new");
        x.addWord(30, 31);
        check.dueText("reading", Check.read(x, 0, 0), "new ".repeat(5));
    }

    /** Sends one letter over a link with two faults that make up for one another. */
    private static void readingOfWrongSigns() {
        check.part("promise 19");
        OpticalTelegraph x = new OpticalTelegraph();
        int[] signs = {0, 2, 26, 27, 28, 29, 30, 95, 96, 98, 99};
        String read = "#bz ########";
        for (int i = 0; i < signs.length; i++) {
            x.reset(4);
            int offset = (signs[i] - 1 + 100) % 100;
            x.addFault(0, 1, offset);
            x.addFault(0, 2, 100 - offset);
            Check.send(x, "a", 0, 1, 0);
            x.run(6);
            check.due("sign(0, 1, 0)", x.sign(0, 1, 0), signs[i]);
            check.due("reading(0, 1, 0) of " + signs[i], x.reading(0, 1, 0), read.charAt(i));
            check.due("reading(0, 1, 1) of " + signs[i], x.reading(0, 1, 1), ' ');
            check.due("reading(0, 1, 2) of " + signs[i], x.reading(0, 1, 2), -6);
        }
        // A book sign by mistake takes whatever two signs are behind it.
        x.reset(4);
        x.addFault(0, 1, 27);
        x.addFault(0, 2, 73);
        Check.send(x, "abcd", 0, 1, 0);
        String[] parts = {"", "#", "#b", "? ", "? d", "? d "};
        for (int i = 0; i < parts.length; i++) {
            check.dueText("reading of " + i + " signs", Check.read(x, 0, 1), parts[i]);
            x.run(3);
        }
        // Two book signs before the last sign: neither has two signs behind it, at last.
        x.reset(4);
        x.addFault(0, 1, 27);
        x.addFault(0, 2, 73);
        x.addFault(0, 3, 26);
        x.addFault(0, 4, 74);
        Check.send(x, "ab", 0, 1, 0);
        x.run(6);
        check.dueText("reading of 28 28", Check.read(x, 0, 1), "##");
        x.run(3);
        check.dueText("reading of 28 28 27", Check.read(x, 0, 1), "? ");
    }

    private static void step() {
        check.part("promise 20");
        OpticalTelegraph x = new OpticalTelegraph();
        check.due("step(0, 0)", x.step(0, 0), -2);
        check.due("step(0, 9)", x.step(0, 9), -2);
        x.addFault(1, 1, 4);
        Check.send(x, "a", 2, 1, 0);
        int[][] wrong = {{-1, 0, -2}, {1, 9, -2}, {MIN, 0, -2}, {0, -1, -1}, {0, 3, -1}, {0, MAX, -1}, {0, MIN, -1}, {0, 0, -6}, {0, 2, -6}};
        for (int[] w : wrong) {
            check.due("step(" + w[0] + ", " + w[1] + ")", x.step(w[0], w[1]), w[2]);
        }
        int[] steps = {0, 1, 2, 3, 0, 1, 2, 0, 1, 2, 0, 0};
        for (int t = 0; t < steps.length; t++) {
            check.due("step(0, 1) at " + t, x.step(0, 1), steps[t]);
            x.run(1);
        }
        check.due("message(0, 6)", x.message(0, 6), 10);
        x.reset(8);
        Check.send(x, "a", 7, 0, 0);
        for (int l = 0; l < 7; l++) {
            check.due("step(0, " + l + ")", x.step(0, l), 0);
        }
        check.due("step(0, 7)", x.step(0, 7), -1);
    }

    private static void stepStays() {
        check.part("promise 20");
        OpticalTelegraph x = new OpticalTelegraph();
        x.addFault(0, 1, 9);
        x.addFog(0, 2, 3);
        Check.send(x, "a", 0, 1, 0);
        x.run(2);
        check.due("shown(1)", x.shown(1), 10);
        x.run(2);
        check.due("step(0, 0) after fog", x.step(0, 0), 2);
        check.due("shown(1) in fog", x.shown(1), 0);
        Check.send(x, "b", 2, 1, 1);
        x.run(6);
        check.due("step(0, 0) after another message", x.step(0, 0), 2);
        check.due("message(1, 4)", x.message(1, 4), 1);
        // What was read before is still compared.
        x.run(1);
        check.due("step(0, 0)", x.step(0, 0), 3);
        check.due("message(0, 7)", x.message(0, 7), 1);
        check.due("message(1, 7)", x.message(1, 7), 0);
        x.cancel(0);
        check.due("step(0, 0) of a cancelled message", x.step(0, 0), 3);
        // A new message begins at step 0, also after a reset.
        x.reset(4);
        Check.send(x, "a", 0, 1, 0);
        check.due("step(0, 0)", x.step(0, 0), 0);
    }
}
