import java.util.Random;

/** Runs of chance calls; each answer is held against that of PlainTelegraph. */
public final class RandomRunsTest {
    // The class keeps no count of its calls: here a run may go beyond the 512 of the document, so
    // that all that can be seen is asked for again and again.
    private static final int TURNS = 400;
    private static final int RESET = -1;
    private static final int[] EDGES = {Integer.MIN_VALUE, -1, Integer.MAX_VALUE};

    private final Random random;
    private final OpticalTelegraph x = new OpticalTelegraph();
    private final PlainTelegraph plain = new PlainTelegraph();
    private final StringBuilder story = new StringBuilder();
    private final boolean slow;
    private final boolean bookish;
    private final boolean clear;
    private final boolean watchful;
    private int[] lastFault = {0, 1, 50};
    private String call;
    private int got;
    private int want;

    private RandomRunsTest(long seed) {
        random = new Random(seed);
        slow = random.nextInt(3) > 0;
        bookish = random.nextInt(3) == 0;
        clear = random.nextBoolean();
        watchful = random.nextBoolean();
    }

    public static void main(String[] args) {
        int runs = args.length > 0 ? Integer.parseInt(args[0]) : 800;
        long seed = args.length > 1 ? Long.parseLong(args[1]) : 1;
        for (int i = 0; i < runs; i++) {
            if (!new RandomRunsTest(seed * 1000003 + i).isAsDue()) {
                System.exit(1);
            }
        }
        System.out.println(runs + " chance runs are as due");
    }

    private boolean isAsDue() {
        for (int i = 0; i < TURNS; i++) {
            int kind = random.nextInt(100);
            if (kind < 9) {
                writeText();
            } else {
                makeCall(isIdle() && random.nextInt(3) == 0 ? RESET : kind);
                if (!compare()) {
                    return false;
                }
            }
            if (watchful && !compareTowers()) {
                return false;
            }
        }
        return compareAll();
    }

    /** All ten messages have ended: little can happen before the next reset. */
    private boolean isIdle() {
        return plain.value(2) == 10 && plain.value(3) == 0;
    }

    private boolean compare() {
        story.append(call).append(" = ").append(got).append("; ");
        if (got != want) {
            System.out.println(story);
            System.out.println("the last answer is " + got + ", due is " + want);
            return false;
        }
        return true;
    }

    private void answer(String name, int gotOne, int wantOne) {
        call = name;
        got = gotOne;
        want = wantOne;
    }

    /** Mostly a number within the bounds, sometimes one at or beyond them. */
    private int number(int least, int most) {
        int kind = random.nextInt(40);
        if (kind == 0) {
            return EDGES[random.nextInt(EDGES.length)];
        }
        if (kind == 1) {
            return least - 1;
        }
        if (kind == 2) {
            return most + 1;
        }
        return least + random.nextInt(most - least + 1);
    }

    private void writeText() {
        answer("clearText()", x.clearText(), plain.clearText());
        if (!compare()) {
            System.exit(1);
        }
        int length = random.nextInt(8) == 0 ? random.nextInt(63) : 1 + random.nextInt(bookish ? 4 : 14);
        int letters = random.nextInt(3) == 0 || bookish ? 26 : 2;
        boolean inWord = false;
        for (int i = 0; i < length; i++) {
            char c = (char) ('a' + random.nextInt(letters));
            if (random.nextInt(bookish ? 6 : 3) == 0 && inWord && i < length - 1) {
                c = ' ';
            }
            if (random.nextInt(150) == 0) {
                c = new char[] {' ', 'A', '`', '{', '\0', (char) 0x161, '\uffff', '\t'}[random.nextInt(8)];
            }
            inWord = c != ' ';
            answer("type((char) " + (int) c + ")", x.type(c), plain.type(c));
            if (!compare()) {
                System.exit(1);
            }
        }
    }

    private int tower() {
        return number(0, plain.value(1) - 1);
    }

    private int link() {
        return number(0, plain.value(1) - 2);
    }

    private int message() {
        return number(0, Math.max(0, plain.value(2) - 1));
    }

    private void makeCall(int kind) {
        if (kind == RESET) {
            int towers = number(3, 8);
            answer("reset(" + towers + ")", x.reset(towers), plain.reset(towers));
        } else if (kind < 14) {
            resetOrDay();
        } else if (kind < 17) {
            int link = link();
            int first = random.nextInt(4) == 0 ? number(0, 100000) : plain.value(0) + random.nextInt(30);
            int last = random.nextInt(8) == 0 ? number(0, 100000) : first + number(0, 20);
            answer("addFog(" + link + ", " + first + ", " + last + ")", x.addFog(link, first, last), plain.addFog(link, first, last));
        } else if (kind < 22) {
            fault();
        } else if (kind < 26 || bookish && kind < 33) {
            int page = number(30, random.nextInt(2) == 0 ? 32 : 95);
            int row = number(30, random.nextInt(2) == 0 ? 32 : 95);
            answer("addWord(" + page + ", " + row + ")", x.addWord(page, row), plain.addWord(page, row));
        } else if (kind < 27) {
            answer("removeWord()", x.removeWord(), plain.removeWord());
        } else if (kind < 29) {
            answer("signCount()", x.signCount(), plain.signCount());
        } else if (kind < 37) {
            int from = tower();
            int to = tower();
            int priority = number(0, 2);
            answer("send(" + from + ", " + to + ", " + priority + ")", x.send(from, to, priority), plain.send(from, to, priority));
        } else if (kind < 38) {
            int m = message();
            answer("cancel(" + m + ")", x.cancel(m), plain.cancel(m));
        } else if (kind < 40) {
            int m = message();
            int p = number(0, 2);
            answer("setPriority(" + m + ", " + p + ")", x.setPriority(m, p), plain.setPriority(m, p));
        } else if (kind < 58) {
            int minutes = random.nextInt(slow ? 60 : 6) == 0 ? number(1, 300) : number(1, slow ? 3 : 20);
            answer("run(" + minutes + ")", x.run(minutes), plain.run(minutes));
        } else {
            ask(kind);
        }
    }

    private void resetOrDay() {
        if (random.nextInt(6) == 0) {
            int towers = number(3, 8);
            answer("reset(" + towers + ")", x.reset(towers), plain.reset(towers));
        } else if (clear || random.nextInt(3) == 0) {
            answer("setDay(1000, 1000)", x.setDay(1000, 1000), plain.setDay(1000, 1000));
        } else {
            int length = number(1, random.nextInt(4) == 0 ? 10000 : 30);
            int light = number(1, Math.max(1, Math.min(length, 10000)));
            answer("setDay(" + length + ", " + light + ")", x.setDay(length, light), plain.setDay(length, light));
        }
    }

    /** Every other fault is meant to make up for the one before it. */
    private void fault() {
        int link = link();
        int done = Math.max(0, plain.linkCount(link, 0));
        int reading = random.nextInt(8) == 0 ? number(1, 10000) : done + number(1, 8);
        int offset = number(1, 99);
        if (random.nextInt(2) == 0) {
            link = lastFault[0];
            reading = lastFault[1] + 1;
            offset = 100 - lastFault[2];
        }
        lastFault = new int[] {link, reading, offset};
        answer("addFault(" + link + ", " + reading + ", " + offset + ")", x.addFault(link, reading, offset), plain.addFault(link, reading, offset));
    }

    private void ask(int kind) {
        int m = message();
        int t = tower();
        int l = link();
        if (kind < 60) {
            answer("isBlind(" + l + ")", x.isBlind(l), plain.isBlind(l));
        } else if (kind < 64) {
            int what = number(0, 3);
            answer("linkCount(" + l + ", " + what + ")", x.linkCount(l, what), plain.linkCount(l, what));
        } else if (kind < 68) {
            int what = number(0, 7);
            answer("message(" + m + ", " + what + ")", x.message(m, what), plain.message(m, what));
        } else if (kind < 71) {
            answer("copied(" + m + ", " + t + ")", x.copied(m, t), plain.copied(m, t));
        } else if (kind < 74) {
            int k = number(0, 29);
            answer("sign(" + m + ", " + t + ", " + k + ")", x.sign(m, t, k), plain.sign(m, t, k));
        } else if (kind < 78) {
            int i = number(0, random.nextInt(3) == 0 ? 110 : 10);
            answer("reading(" + m + ", " + t + ", " + i + ")", x.reading(m, t, i), plain.reading(m, t, i));
        } else if (kind < 81) {
            answer("step(" + m + ", " + l + ")", x.step(m, l), plain.step(m, l));
        } else if (kind < 84) {
            int what = number(0, 6);
            answer("value(" + what + ")", x.value(what), plain.value(what));
        } else if (kind < 89) {
            answer("shown(" + t + ")", x.shown(t), plain.shown(t));
        } else if (kind < 92) {
            int what = number(0, 1);
            answer("task(" + t + ", " + what + ")", x.task(t, what), plain.task(t, what));
        } else if (kind < 95) {
            answer("forecast(" + m + ")", x.forecast(m), plain.forecast(m));
        } else if (kind < 98) {
            int other = message();
            int p = number(0, 2);
            answer("effect(" + m + ", " + other + ", " + p + ")", x.effect(m, other, p), plain.effect(m, other, p));
        } else {
            answer("leastMinutes(" + m + ")", x.leastMinutes(m), plain.leastMinutes(m));
        }
    }

    private boolean compareTowers() {
        boolean same = true;
        for (int t = 0; t < plain.value(1); t++) {
            answer("shown(" + t + ")", x.shown(t), plain.shown(t));
            same = same && compare();
            for (int what = 0; what < 2; what++) {
                answer("task(" + t + ", " + what + ")", x.task(t, what), plain.task(t, what));
                same = same && compare();
            }
            for (int m = 0; m < plain.value(2); m++) {
                answer("copied(" + m + ", " + t + ")", x.copied(m, t), plain.copied(m, t));
                same = same && compare();
                answer("step(" + m + ", " + t + ")", x.step(m, t), plain.step(m, t));
                same = same && compare();
            }
        }
        return same;
    }

    /** At the end of a run, all that can be asked is asked. */
    private boolean compareAll() {
        boolean same = true;
        for (int l = 0; l < 7; l++) {
            for (int what = 0; what < 4; what++) {
                answer("linkCount(" + l + ", " + what + ")", x.linkCount(l, what), plain.linkCount(l, what));
                same = same && compare();
            }
        }
        for (int m = 0; m < 10; m++) {
            for (int what = 0; what < 8; what++) {
                answer("message(" + m + ", " + what + ")", x.message(m, what), plain.message(m, what));
                same = same && compare();
            }
            for (int t = 0; t < 8; t++) {
                answer("step(" + m + ", " + t + ")", x.step(m, t), plain.step(m, t));
                same = same && compare();
                for (int k = 0; k < 31; k++) {
                    answer("sign(" + m + ", " + t + ", " + k + ")", x.sign(m, t, k), plain.sign(m, t, k));
                    same = same && compare();
                    answer("reading(" + m + ", " + t + ", " + k + ")", x.reading(m, t, k), plain.reading(m, t, k));
                    same = same && compare();
                }
            }
        }
        return same;
    }
}
