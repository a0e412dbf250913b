/** The boundary cases of the promises 13 to 20, sentence by sentence. */
public final class MessageEdgesTest {
    private static final int MIN = Integer.MIN_VALUE;
    private static final int MAX = Integer.MAX_VALUE;
    private static final Check check = new Check();
    private static final Twins empty = new Twins(check, OpticalTelegraph::new);
    private static final Twins busy = new Twins(check, Scenes::busy);

    public static void main(String[] args) {
        sendRanges();
        sendToTheSameTower();
        sendUntilTen();
        sendThirtySigns();
        sendErrorsInOrder();
        sendRefused();
        cancelNumbers();
        cancelAtEachTime();
        cancelKeepsCopies();
        cancelRefused();
        priorityRanges();
        priorityOfEndedMessages();
        priorityErrorsInOrder();
        priorityRefused();
        messageRanges();
        messageArrival();
        messageErrorsInOrder();
        copiedBesideTheWay();
        copiedErrorsInOrder();
        signPlaces();
        signErrorsInOrder();
        readingIndices();
        longestReading();
        readingErrorsInOrder();
        stepBesideTheWay();
        stepErrorsInOrder();
        askingChangesNothing();
        check.end();
    }

    private static void sendRanges() {
        check.part("promise 13: from: first tower");
        check.range("send from", 0, 3, 0, -1, from -> Scenes.withText("a").send(from, from == 0 ? 1 : 0, 0));
        check.part("promise 13: to: last tower, another one");
        check.range("send to", 0, 3, 0, -1, to -> Scenes.withText("a").send(to == 0 ? 1 : 0, to, 0));
        check.part("promise 13: priority: 0 to 2");
        check.range("send with a priority", 0, 2, 0, -3, priority -> Scenes.withText("a").send(3, 0, priority));
        for (int priority = 0; priority <= 2; priority++) {
            OpticalTelegraph x = Scenes.withText("a");
            x.send(1, 2, priority);
            check.due("message(0, 2)", x.message(0, 2), priority);
        }
    }

    private static void sendToTheSameTower() {
        check.part("promise 13: BAD_VALUE, also if both towers are the same");
        for (int towers = 3; towers <= 8; towers++) {
            for (int from = 0; from < towers; from++) {
                for (int to = 0; to < towers; to++) {
                    OpticalTelegraph x = Scenes.withText("a");
                    x.reset(towers);
                    check.due("send(" + from + ", " + to + ", 0)", x.send(from, to, 0), from == to ? -3 : 0);
                    check.due("value(2)", x.value(2), from == to ? 0 : 1);
                }
            }
        }
    }

    private static void sendUntilTen() {
        check.part("promise 13: Returns the number of the message; FULL if there are 10 messages");
        OpticalTelegraph x = Scenes.withText("a");
        for (int i = 0; i < 10; i++) {
            check.due("send", x.send(i % 4, (i + 1) % 4, i % 3), i);
            check.due("value(2)", x.value(2), i + 1);
        }
        check.due("send of an eleventh", x.send(0, 1, 0), -5);
        // The messages that have ended still take room.
        for (int m = 0; m < 5; m++) {
            x.cancel(m);
        }
        check.due("send after five were cancelled", x.send(0, 1, 0), -5);
        x.run(300);
        check.due("value(3)", x.value(3), 0);
        check.due("send after five have arrived", x.send(0, 1, 0), -5);
        check.due("value(2)", x.value(2), 10);
        x.reset(4);
        check.due("send after a reset", x.send(0, 1, 0), 0);
    }

    private static void sendThirtySigns() {
        check.part("promise 13: FULL if the text gives more than 30 signs");
        for (int letters = 1; letters <= 60; letters++) {
            OpticalTelegraph x = Scenes.withText("a".repeat(letters));
            check.due("send of " + letters + " letters", x.send(0, 1, 0), letters <= 29 ? 0 : -5);
            check.due("message(0, 3)", x.message(0, 3), letters <= 29 ? letters + 1 : -2);
        }
        OpticalTelegraph x = Scenes.withText("b");
        x.addWord(95, 95);
        String ten = "b ".repeat(9) + "b";
        String[] texts = {ten, ten + " b", ten + " c", "b ".repeat(9) + "cc", "b ".repeat(9) + "ccc", "c ".repeat(14) + "c", "c ".repeat(15) + "c"};
        int[] signs = {30, 33, 32, 30, 31, 30, 32};
        for (int i = 0; i < texts.length; i++) {
            x.reset(4);
            Check.write(x, texts[i]);
            check.due("signCount() of '" + texts[i] + "'", x.signCount(), signs[i]);
            check.due("send of '" + texts[i] + "'", x.send(0, 1, 0), signs[i] <= 30 ? 0 : -5);
        }
        // All thirty signs go over the line.
        x.reset(3);
        Check.write(x, ten);
        x.send(2, 0, 0);
        x.run(180);
        check.due("message(0, 6)", x.message(0, 6), 180);
        check.dueText("reading", Check.read(x, 0, 0), ten + " ");
        check.due("sign(0, 0, 29)", x.sign(0, 0, 29), 95);
    }

    private static void sendErrorsInOrder() {
        check.part("promise 13: NO_SUCH_PLACE; BAD_VALUE; -100 minus the fault; FULL");
        OpticalTelegraph x = Scenes.busy();
        check.due("no first tower, bad priority", x.send(5, 0, 3), -1);
        check.due("no last tower, bad priority", x.send(0, 5, -1), -1);
        check.due("no towers, and the same", x.send(5, 5, 0), -1);
        check.due("no towers, and the same", x.send(-1, -1, 0), -1);
        check.due("the same towers, bad priority", x.send(1, 1, 3), -3);
        x = Scenes.full("a ");
        check.due("no first tower, text with a fault, full", x.send(8, 0, 0), -1);
        check.due("no last tower, text with a fault, full", x.send(0, -1, 0), -1);
        check.due("the same towers, text with a fault, full", x.send(0, 0, 0), -3);
        check.due("bad priority, text with a fault, full", x.send(0, 7, 3), -3);
        check.due("text with a fault, full", x.send(0, 7, 2), -102);
        x.clearText();
        check.due("no text, full", x.send(0, 7, 2), -100);
        Check.write(x, "z".repeat(59) + " ");
        check.due("text too long and with a fault, full", x.send(0, 7, 2), -160);
        Check.write(x, "z".repeat(30));
        check.due("no tower, text too long, full", x.send(0, 8, 2), -1);
        check.due("bad priority, text too long, full", x.send(0, 7, -1), -3);
        check.due("text too long, full", x.send(0, 7, 2), -5);
        x.reset(8);
        check.due("no tower, text too long", x.send(0, 8, 2), -1);
        check.due("the same towers, text too long", x.send(7, 7, 2), -3);
        check.due("text too long", x.send(0, 7, 2), -5);
    }

    private static void sendRefused() {
        check.part("promise 13: a refused call changes nothing");
        empty.stay("send(0, 1, 0) of no text", x -> x.send(0, 1, 0), -100);
        busy.stay("send(5, 0, 0)", x -> x.send(5, 0, 0), -1);
        busy.stay("send(0, -1, 0)", x -> x.send(0, -1, 0), -1);
        busy.stay("send(2, 2, 0)", x -> x.send(2, 2, 0), -3);
        busy.stay("send(0, 4, 3)", x -> x.send(0, 4, 3), -3);
        busy.stay("send(0, 4, -1)", x -> x.send(0, 4, -1), -3);
        new Twins(check, () -> Scenes.full("zz")).stay("send(0, 7, 2)", x -> x.send(0, 7, 2), -5);
        new Twins(check, () -> Scenes.full("zz ")).stay("send(0, 7, 2)", x -> x.send(0, 7, 2), -103);
        new Twins(check, () -> busyWith("z".repeat(30))).stay("send(0, 4, 2)", x -> x.send(0, 4, 2), -5);
        new Twins(check, () -> busyWith("z !")).stay("send(0, 4, 2)", x -> x.send(0, 4, 2), -102);
    }

    private static OpticalTelegraph busyWith(String text) {
        OpticalTelegraph x = Scenes.busy();
        Check.write(x, text);
        return x;
    }

    private static void cancelNumbers() {
        check.part("promise 14: message: its number; NO_SUCH_MESSAGE");
        for (int bad : new int[] {-1, 0, 1, MIN, MAX}) {
            check.due("cancel(" + bad + ") without messages", new OpticalTelegraph().cancel(bad), -2);
        }
        for (int count = 1; count <= 10; count++) {
            int messages = count;
            check.range("cancel", 0, count - 1, 0, -2, m -> withMessages(messages).cancel(m));
        }
    }

    private static OpticalTelegraph withMessages(int count) {
        OpticalTelegraph x = Scenes.withText("a");
        for (int i = 0; i < count; i++) {
            x.send(0, 1, 0);
        }
        return x;
    }

    private static void cancelAtEachTime() {
        check.part("promise 14: Returns the number of signs that are in the copy of its last tower; NOT_POSSIBLE");
        for (int time = 0; time <= 13; time++) {
            OpticalTelegraph x = Scenes.withText("a");
            x.send(3, 1, 0);
            Check.runTo(x, time);
            check.due("cancel(0) at " + time, x.cancel(0), time < 6 ? 0 : time < 12 ? 1 : -4);
            check.due("message(0, 4)", x.message(0, 4), time < 12 ? 2 : 1);
            check.due("message(0, 6)", x.message(0, 6), time < 12 ? -6 : 12);
            check.due("cancel(0) again", x.cancel(0), -4);
        }
        OpticalTelegraph x = Scenes.withText("a".repeat(29));
        x.send(0, 1, 0);
        x.run(89);
        check.due("cancel(0) before the last minute", x.cancel(0), 29);
    }

    private static void cancelKeepsCopies() {
        check.part("promise 14: Its copies stay");
        OpticalTelegraph x = Scenes.withText("abc");
        x.send(0, 3, 0);
        x.run(13);
        x.cancel(0);
        int[] copied = {4, 2, 2, 1};
        for (int round = 0; round < 2; round++) {
            for (int t = 0; t < 4; t++) {
                check.due("copied(0, " + t + ")", x.copied(0, t), copied[t]);
                for (int k = 0; k < 4; k++) {
                    check.due("sign(0, " + t + ", " + k + ")", x.sign(0, t, k), k >= copied[t] ? -6 : k == 3 ? 27 : k + 1);
                }
                check.due("task(" + t + ", 0)", x.task(t, 0), -6);
            }
            x.run(100);
        }
        check.due("value(3)", x.value(3), 0);
    }

    private static void cancelRefused() {
        check.part("promise 14: a refused call changes nothing");
        busy.stay("cancel(-1)", x -> x.cancel(-1), -2);
        busy.stay("cancel(4)", x -> x.cancel(4), -2);
        busy.stay("cancel(0), which has arrived", x -> x.cancel(0), -4);
        busy.stay("cancel(3), which is cancelled", x -> x.cancel(3), -4);
    }

    private static void priorityRanges() {
        check.part("promise 15: priority: 0 to 2");
        check.range("setPriority", 0, 2, 1, -3, priority -> withPriority(1).setPriority(0, priority));
        check.part("promise 15: Returns the previous priority");
        for (int before = 0; before <= 2; before++) {
            for (int then = 0; then <= 2; then++) {
                OpticalTelegraph x = withPriority(before);
                check.due("setPriority(0, " + then + ")", x.setPriority(0, then), before);
                check.due("message(0, 2)", x.message(0, 2), then);
            }
        }
        check.part("promise 15: message: its number; NO_SUCH_MESSAGE");
        check.range("setPriority", 0, 9, 0, -2, m -> withMessages(10).setPriority(m, 2));
        check.due("setPriority(0, 0) without messages", new OpticalTelegraph().setPriority(0, 0), -2);
    }

    private static OpticalTelegraph withPriority(int priority) {
        OpticalTelegraph x = Scenes.withText("a");
        x.send(0, 1, priority);
        return x;
    }

    private static void priorityOfEndedMessages() {
        check.part("promise 15: NOT_POSSIBLE: the message is not under way");
        OpticalTelegraph x = withPriority(2);
        x.run(5);
        check.due("setPriority(0, 1) before the last minute", x.setPriority(0, 1), 2);
        x.run(1);
        check.due("setPriority(0, 0) after it", x.setPriority(0, 0), -4);
        check.due("setPriority(0, 1) as it is", x.setPriority(0, 1), -4);
        check.due("message(0, 2)", x.message(0, 2), 1);
        x.send(0, 1, 2);
        x.cancel(1);
        check.due("setPriority(1, 0) of a cancelled message", x.setPriority(1, 0), -4);
        check.due("message(1, 2)", x.message(1, 2), 2);
    }

    private static void priorityErrorsInOrder() {
        check.part("promise 15: NO_SUCH_MESSAGE; BAD_VALUE; NOT_POSSIBLE");
        OpticalTelegraph x = Scenes.busy();
        check.due("no message, bad priority", x.setPriority(4, 3), -2);
        check.due("no message, bad priority", x.setPriority(-1, -1), -2);
        check.due("bad priority, has arrived", x.setPriority(0, 3), -3);
        check.due("bad priority, is cancelled", x.setPriority(3, -1), -3);
    }

    private static void priorityRefused() {
        check.part("promise 15: a refused call changes nothing");
        busy.stay("setPriority(4, 0)", x -> x.setPriority(4, 0), -2);
        busy.stay("setPriority(-1, 0)", x -> x.setPriority(-1, 0), -2);
        busy.stay("setPriority(1, 3)", x -> x.setPriority(1, 3), -3);
        busy.stay("setPriority(2, -1)", x -> x.setPriority(2, -1), -3);
        busy.stay("setPriority(0, 0)", x -> x.setPriority(0, 0), -4);
        busy.stay("setPriority(3, 2)", x -> x.setPriority(3, 2), -4);
        busy.stay("setPriority(1, 1), as it is", x -> x.setPriority(1, 1), 1);
    }

    private static void messageRanges() {
        check.part("promise 16: message: its number; NO_SUCH_MESSAGE");
        check.range("message", 0, 9, 1, -2, m -> withMessages(10).message(m, 1));
        check.range("message", 0, 0, 1, -2, m -> withMessages(1).message(m, 1));
        check.due("message(0, 0) without messages", new OpticalTelegraph().message(0, 0), -2);
        check.part("promise 16: what: 0 .. 7");
        OpticalTelegraph x = Scenes.busy();
        int[][] due = {{0, 1, 2, 2, 1, 0, 10, 1}, {4, 0, 1, 5, 0, 0, -6, 0}, {1, 3, 0, 3, 0, 0, -6, 0}, {2, 4, 0, 2, 2, 0, -6, 0}};
        for (int m = 0; m < 4; m++) {
            for (int what = 0; what < 8; what++) {
                check.due("message(" + m + ", " + what + ")", x.message(m, what), due[m][what]);
            }
            for (int bad : new int[] {-1, 8, MIN, MAX}) {
                check.due("message(" + m + ", " + bad + ")", x.message(m, bad), -3);
            }
        }
    }

    private static void messageArrival() {
        check.part("promise 16: NONE for 6 if it has not arrived");
        OpticalTelegraph x = Scenes.withText("a");
        x.run(300);
        x.send(0, 1, 0);
        check.due("message(0, 5)", x.message(0, 5), 300);
        check.due("message(0, 6) at first", x.message(0, 6), -6);
        x.run(5);
        check.due("message(0, 6) before the last minute", x.message(0, 6), -6);
        x.run(1);
        check.due("message(0, 6)", x.message(0, 6), 306);
        x.run(1);
        check.due("message(0, 6) later", x.message(0, 6), 306);
        x.send(0, 1, 0);
        x.run(5);
        x.cancel(1);
        check.due("message(1, 6) of a cancelled message", x.message(1, 6), -6);
        x.run(10);
        check.due("message(1, 6) later", x.message(1, 6), -6);
    }

    private static void messageErrorsInOrder() {
        check.part("promise 16: NO_SUCH_MESSAGE; BAD_VALUE");
        OpticalTelegraph x = Scenes.busy();
        check.due("message(4, 8)", x.message(4, 8), -2);
        check.due("message(-1, -1)", x.message(-1, -1), -2);
        check.due("message(3, 8)", x.message(3, 8), -3);
    }

    /** A message over these towers of eight, in either direction. */
    private static OpticalTelegraph over(int from, int to) {
        OpticalTelegraph x = Scenes.withText("abc");
        x.reset(8);
        x.send(from, to, 0);
        return x;
    }

    private static boolean isBetween(int number, int one, int other) {
        return number >= Math.min(one, other) && number <= Math.max(one, other);
    }

    private static void copiedBesideTheWay() {
        check.part("promises 17 to 19: NONE if the tower is not on the way of the message");
        for (int from = 0; from < 8; from++) {
            for (int to = 0; to < 8; to++) {
                if (from != to) {
                    OpticalTelegraph x = over(from, to);
                    x.run(300);
                    for (int t = 0; t < 8; t++) {
                        boolean onWay = isBetween(t, from, to);
                        String way = " from " + from + " to " + to;
                        check.due("copied(0, " + t + ")" + way, x.copied(0, t), onWay ? 4 : -6);
                        check.due("sign(0, " + t + ", 0)" + way, x.sign(0, t, 0), onWay ? 1 : -6);
                        check.due("reading(0, " + t + ", 0)" + way, x.reading(0, t, 0), onWay ? 'a' : -6);
                    }
                }
            }
        }
    }

    private static void copiedErrorsInOrder() {
        check.part("promise 17: NO_SUCH_MESSAGE; NO_SUCH_PLACE; NONE");
        OpticalTelegraph x = Scenes.busy();
        check.due("no message, no tower", x.copied(4, 5), -2);
        check.due("no message, no tower", x.copied(-1, -1), -2);
        check.due("no message, tower beside", x.copied(4, 4), -2);
        check.due("no tower", x.copied(2, 5), -1);
        check.due("no tower", x.copied(2, -1), -1);
        check.due("tower beside", x.copied(2, 4), -6);
        check.due("tower beside", x.copied(2, 0), -6);
        check.range("copied", 0, 9, 2, -2, m -> withMessages(10).copied(m, 0));
    }

    private static void signPlaces() {
        check.part("promise 18: k: place of the sign, from 0; NONE if its copy has not so many signs");
        OpticalTelegraph x = over(5, 3);
        x.run(9);
        int[] copied = {2, 4};
        int[] towers = {4, 5};
        for (int i = 0; i < 2; i++) {
            for (int k = 0; k < copied[i]; k++) {
                check.due("sign(0, " + towers[i] + ", " + k + ")", x.sign(0, towers[i], k), k == 3 ? 27 : k + 1);
            }
            check.due("sign behind the last", x.sign(0, towers[i], copied[i]), -6);
            check.due("sign behind the last", x.sign(0, towers[i], copied[i] + 1), -6);
        }
        OpticalTelegraph thirty = Scenes.withText("a".repeat(29));
        thirty.send(0, 1, 0);
        check.due("sign(0, 0, 29)", thirty.sign(0, 0, 29), 27);
        for (int k : new int[] {30, 31, 59, 60, 240, MAX}) {
            check.due("sign(0, 0, " + k + ")", thirty.sign(0, 0, k), -6);
            check.due("sign(0, 1, " + k + ")", thirty.sign(0, 1, k), -6);
        }
        check.due("sign(0, 1, 0) of an empty copy", thirty.sign(0, 1, 0), -6);
        check.part("promise 18: BAD_VALUE if k is negative");
        check.due("sign(0, 0, -1)", thirty.sign(0, 0, -1), -3);
        check.due("sign(0, 1, -1)", thirty.sign(0, 1, -1), -3);
        check.due("sign(0, 1, MIN)", thirty.sign(0, 1, MIN), -3);
    }

    private static void signErrorsInOrder() {
        check.part("promise 18: NO_SUCH_MESSAGE; NO_SUCH_PLACE; BAD_VALUE; NONE");
        OpticalTelegraph x = Scenes.busy();
        check.due("no message, no tower, bad place", x.sign(4, 5, -1), -2);
        check.due("no message, bad place", x.sign(-1, 0, -1), -2);
        check.due("no message, no tower", x.sign(4, -1, 0), -2);
        check.due("no tower, bad place", x.sign(2, 5, -1), -1);
        check.due("no tower, bad place", x.sign(2, -1, MIN), -1);
        check.due("no tower", x.sign(2, 5, 0), -1);
        check.due("bad place, tower beside", x.sign(2, 4, -1), -3);
        check.due("tower beside", x.sign(2, 4, 0), -6);
        check.range("sign", 0, 9, 1, -2, m -> withMessages(10).sign(m, 0, 0));
    }

    private static void readingIndices() {
        check.part("promise 19: i: index of the character, from 0; NONE if the reading is not so long");
        OpticalTelegraph x = Scenes.withText("abcdefghij");
        x.addWord(40, 40);
        Check.send(x, "abcdefghij x", 0, 1, 0);
        String whole = "abcdefghij x ";
        for (int i = 0; i < whole.length(); i++) {
            check.due("reading(0, 0, " + i + ")", x.reading(0, 0, i), whole.charAt(i));
        }
        for (int i : new int[] {13, 14, 30, 60, MAX}) {
            check.due("reading(0, 0, " + i + ")", x.reading(0, 0, i), -6);
        }
        check.due("reading(0, 1, 0) of an empty copy", x.reading(0, 1, 0), -6);
        check.part("promise 19: BAD_VALUE if i is negative");
        check.due("reading(0, 0, -1)", x.reading(0, 0, -1), -3);
        check.due("reading(0, 1, -1)", x.reading(0, 1, -1), -3);
        check.due("reading(0, 1, MIN)", x.reading(0, 1, MIN), -3);
    }

    /** Ten words of one letter are sent; then ten letters stand in their places in the book. */
    private static void longestReading() {
        check.part("promise 19: with the code book as it is now");
        OpticalTelegraph x = Scenes.withText("b");
        x.addWord(40, 41);
        Check.send(x, "b ".repeat(9) + "b", 0, 1, 0);
        check.due("reading(0, 0, 19)", x.reading(0, 0, 19), ' ');
        check.due("reading(0, 0, 20)", x.reading(0, 0, 20), -6);
        Check.write(x, "b");
        x.removeWord();
        check.dueText("reading without the word", Check.read(x, 0, 0), "? ".repeat(10));
        Check.write(x, "abcdefghij");
        x.addWord(40, 41);
        check.dueText("reading with a longer word", Check.read(x, 0, 0), "abcdefghij ".repeat(10));
        check.due("reading(0, 0, 108)", x.reading(0, 0, 108), 'j');
        check.due("reading(0, 0, 109)", x.reading(0, 0, 109), ' ');
        check.due("reading(0, 0, 110)", x.reading(0, 0, 110), -6);
    }

    private static void readingErrorsInOrder() {
        check.part("promise 19: NO_SUCH_MESSAGE; NO_SUCH_PLACE; BAD_VALUE; NONE");
        OpticalTelegraph x = Scenes.busy();
        check.due("no message, no tower, bad index", x.reading(4, 5, -1), -2);
        check.due("no message, bad index", x.reading(-1, 0, -1), -2);
        check.due("no message, no tower", x.reading(4, -1, 0), -2);
        check.due("no tower, bad index", x.reading(2, 5, -1), -1);
        check.due("no tower, bad index", x.reading(2, -1, MIN), -1);
        check.due("no tower", x.reading(2, 5, 0), -1);
        check.due("bad index, tower beside", x.reading(2, 4, -1), -3);
        check.due("tower beside", x.reading(2, 4, 0), -6);
        check.range("reading", 0, 9, 'a', -2, m -> withMessages(10).reading(m, 0, 0));
    }

    private static void stepBesideTheWay() {
        check.part("promise 20: NONE if the link is not on its way");
        for (int from = 0; from < 8; from++) {
            for (int to = 0; to < 8; to++) {
                if (from != to) {
                    OpticalTelegraph x = over(from, to);
                    for (int l = 0; l < 7; l++) {
                        boolean onWay = isBetween(l, from, to) && isBetween(l + 1, from, to);
                        check.due("step(0, " + l + ") from " + from + " to " + to, x.step(0, l), onWay ? 0 : -6);
                    }
                    check.due("step(0, 7)", x.step(0, 7), -1);
                }
            }
        }
    }

    private static void stepErrorsInOrder() {
        check.part("promise 20: NO_SUCH_MESSAGE; NO_SUCH_PLACE; NONE");
        OpticalTelegraph x = Scenes.busy();
        check.due("no message, no link", x.step(4, 4), -2);
        check.due("no message, no link", x.step(-1, -1), -2);
        check.due("no message, link beside", x.step(4, 0), -2);
        check.due("no link", x.step(2, 4), -1);
        check.due("no link", x.step(2, -1), -1);
        check.due("link beside", x.step(2, 3), -6);
        check.due("link beside", x.step(2, 0), -6);
        check.range("step", 0, 9, 0, -2, m -> withMessages(10).step(m, 0));
    }

    private static void askingChangesNothing() {
        check.part("promises 16 to 20: asking changes nothing");
        busy.stay("message(4, 0)", x -> x.message(4, 0), -2);
        busy.stay("message(1, 8)", x -> x.message(1, 8), -3);
        busy.stay("message(1, 6)", x -> x.message(1, 6), -6);
        busy.stay("copied(4, 0)", x -> x.copied(4, 0), -2);
        busy.stay("copied(1, 5)", x -> x.copied(1, 5), -1);
        busy.stay("copied(2, 4)", x -> x.copied(2, 4), -6);
        busy.stay("sign(4, 0, 0)", x -> x.sign(4, 0, 0), -2);
        busy.stay("sign(1, -1, 0)", x -> x.sign(1, -1, 0), -1);
        busy.stay("sign(1, 4, -1)", x -> x.sign(1, 4, -1), -3);
        busy.stay("sign(1, 4, 5)", x -> x.sign(1, 4, 5), -6);
        busy.stay("reading(1, 4, -1)", x -> x.reading(1, 4, -1), -3);
        busy.stay("reading(1, 4, 5)", x -> x.reading(1, 4, 5), -6);
        busy.stay("reading(1, 4, 0)", x -> x.reading(1, 4, 0), 'a');
        busy.stay("step(4, 0)", x -> x.step(4, 0), -2);
        busy.stay("step(1, 4)", x -> x.step(1, 4), -1);
        busy.stay("step(2, 3)", x -> x.step(2, 3), -6);
    }
}
